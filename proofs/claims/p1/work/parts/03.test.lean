set_option maxHeartbeats 4000000 in
set_option maxRecDepth 100000 in
theorem kX11_requireKey_1 (l : Launch) (dC : Nat → ClassId) (dI : Nat → Nat → Nat) (cI cZ cC cJ cD : ClassId) (qf : Nat) (sz : Nat) (p1 : Int32) (bp1 : (-2147483648) ≤ p1.toInt ∧ p1.toInt ≤ (-1)) (hlf : l.stackTraces = false) : vx_Met l yX11_requireKey wsX11_requireKey ({ frames := 6, cells := 1, slots := 6, locals := 94 } : Room) (mPre qf [.int p1] sz (dC, dI) (mT cI cZ cC cJ cD) []) (mQv (fun (u : Unit) => False) (fun (u : Unit) => []) (dC, dI) (va_A [] sz)) (mX ["java/lang/IndexOutOfBoundsException"] (fun (u : Unit) => True) (fun (u : Unit) => []) (dC, dI) (va_A [] sz)) 1 6 (va_A [] sz) := by
  refine mMetX (Qc := fun A => mQv (fun (u : Unit) => False) (fun (u : Unit) => []) (dC, dI) A) (XC := fun A => (mX ["java/lang/IndexOutOfBoundsException"] (fun (u : Unit) => True) (fun (u : Unit) => []) (dC, dI) A)) (own := RX11) (by decide) rfl rfl (Nat.le_of_ble_eq_true rfl) ?_
  intro p e s m args below meth c hx hb hr hts hown hml hlk hno A hsz hP hK hD hS hA hE ls hl Q hQ
  have hl : lv_has ls 1 [(0, .int p1)] := hl
  refine lv_iload_n hx hb dX11_requireKey_0 rfl (lv_at hl 0 rfl) ?_
  refine lv_if_lt (tgt := 10) hx hb dX11_requireKey_1 (by decide) (fun c1 => ?_) (fun c => (z_le (iv_k 0 (k := 0) (by decide)) bp1 (c_nlt c) (by decide)).elim)
  have c1 := c_lt c1
  subst hQ
  obtain ⟨sa, hstr⟩ := mStrOf hE 17 (x := (RX11, 355, "no such key")) rfl
  refine vx_throwSW (names := ["java/lang/RuntimeException", "java/lang/Exception"]) hx hb hlf hown (by decide +kernel) (by decide +kernel) (hts (.classLink RX11 253 "java/lang/IndexOutOfBoundsException") (List.mem_of_getElem? (i := 1) rfl)) (hts (.initialized "java/lang/IndexOutOfBoundsException") (List.mem_of_getElem? (i := 2) rfl)) hstr (mHat hE (fun w h => hts w (List.mem_cons_of_mem _ (List.mem_append_right _ h))) bad_257) (mOt rfl rfl ot_257) hE.2.2.1 hE.2.2.2.1 hS (hl.1.trans hml.symm) dX11_requireKey_10 dX11_requireKey_13 dX11_requireKey_14 dX11_requireKey_17 dX11_requireKey_20 (fun x hx => (hno x hx).elim) (Nat.le_of_ble_eq_true rfl) (Nat.le_of_ble_eq_true rfl) (Nat.le_of_ble_eq_true rfl) (Nat.le_of_ble_eq_true rfl) hlk (fun t ht h1 h2 => ?_) hS.2.2 (Nat.le_of_ble_eq_true rfl) (Nat.le_of_ble_eq_true rfl)
  exact ⟨(), trivial, ⟨(by simp : "java/lang/IndexOutOfBoundsException" ∈ (["java/lang/IndexOutOfBoundsException"] : List String)), (mTh hP hS h1 h2).1⟩, (mTh hP hS h1 h2).2⟩
set_option maxHeartbeats 4000000 in
set_option maxRecDepth 100000 in
theorem kX12_in_1 (l : Launch) (dC : Nat → ClassId) (dI : Nat → Nat → Nat) (cI cZ cC cJ cD : ClassId) (qf : Nat) (sz : Nat) (p1 p2 p3 : Int32) (bp1 : (-2147483648) ≤ p1.toInt ∧ p1.toInt ≤ (-1)) (bp2 : 0 ≤ p2.toInt ∧ p2.toInt ≤ 0) (bp3 : 31 ≤ p3.toInt ∧ p3.toInt ≤ 31) : Met l yX12_in wsX12_in ({ frames := 1, cells := 0, slots := 0, locals := 14 } : Room) (mPre qf [.int p1, .int p2, .int p3] sz (dC, dI) (mT cI cZ cC cJ cD) []) (mQi (fun (r : Int32) (u : Unit) => (0 ≤ r.toInt ∧ r.toInt ≤ 0) ∧ True) (fun (u : Unit) => []) (dC, dI) (va_A [] sz)) 0 0 (va_A [] sz) := by
  refine mMet (Qc := fun A => mQi (fun (r : Int32) (u : Unit) => (0 ≤ r.toInt ∧ r.toInt ≤ 0) ∧ True) (fun (u : Unit) => []) (dC, dI) A) (own := RX12) (by decide) rfl rfl (Nat.le_of_ble_eq_true rfl) ?_
  intro p e s m args below meth c hx hb hr hts hown hml hlk A hsz hP hK hD hS hA hE ls hl Q hQ
  have hl : lv_has ls 3 [(0, .int p1), (1, .int p2), (2, .int p3)] := hl
  refine lv_iload_n hx hb dX12_in_0 rfl (lv_at hl 0 rfl) ?_
  refine lv_iload_n hx hb dX12_in_1 rfl (lv_at hl 1 rfl) ?_
  refine lv_icmp_lt (tgt := 14) hx hb dX12_in_2 (by decide) (fun c1 => ?_) (fun c => (z_le bp2 bp1 (c_nlt c) (by decide)).elim)
  have c1 := c_lt c1
  refine lv_iconst (v := 0) hx hb dX12_in_14 (by decide) ?_
  subst hQ
  exact W.zret (v := (0 : Int32)) hx hb hr (nar_b (iv_k 0 (k := 0) (by decide)) (by decide) (by decide)) (fun t ht hW => ⟨⟨(0 : Int32), (), rfl, ⟨iv_m (iv_k 0 (k := 0) (by decide)) (by decide) (by decide), trivial⟩, by rw [ht]; exact hP⟩, hS.F ht⟩) hS.2.2 dX12_in_15
set_option maxHeartbeats 4000000 in
set_option maxRecDepth 100000 in
theorem kX11_requireKey_2 (l : Launch) (dC : Nat → ClassId) (dI : Nat → Nat → Nat) (cI cZ cC cJ cD : ClassId) (qf : Nat) (sz : Nat) (p1 : Int32) (bp1 : 32 ≤ p1.toInt ∧ p1.toInt ≤ 2147483647) (hlf : l.stackTraces = false) : vx_Met l yX11_requireKey wsX11_requireKey ({ frames := 6, cells := 1, slots := 6, locals := 94 } : Room) (mPre qf [.int p1] sz (dC, dI) (mT cI cZ cC cJ cD) []) (mQv (fun (u : Unit) => False) (fun (u : Unit) => []) (dC, dI) (va_A [] sz)) (mX ["java/lang/IndexOutOfBoundsException"] (fun (u : Unit) => True) (fun (u : Unit) => []) (dC, dI) (va_A [] sz)) 1 6 (va_A [] sz) := by
  refine mMetX (Qc := fun A => mQv (fun (u : Unit) => False) (fun (u : Unit) => []) (dC, dI) A) (XC := fun A => (mX ["java/lang/IndexOutOfBoundsException"] (fun (u : Unit) => True) (fun (u : Unit) => []) (dC, dI) A)) (own := RX11) (by decide) rfl rfl (Nat.le_of_ble_eq_true rfl) ?_
  intro p e s m args below meth c hx hb hr hts hown hml hlk hno A hsz hP hK hD hS hA hE ls hl Q hQ
  have hl : lv_has ls 1 [(0, .int p1)] := hl
  refine lv_iload_n hx hb dX11_requireKey_0 rfl (lv_at hl 0 rfl) ?_
  refine lv_if_lt (tgt := 10) hx hb dX11_requireKey_1 (by decide) (fun c => (z_lt bp1 (iv_k 0 (k := 0) (by decide)) (c_lt c) (by decide)).elim) (fun c1 => ?_)
  have c1 := c_nlt c1
  refine lv_iload_n hx hb dX11_requireKey_4 rfl (lv_at hl 0 rfl) ?_
  refine lv_bipush (v := 32) hx hb dX11_requireKey_5 (by decide) ?_
  refine lv_icmp_lt (tgt := 21) hx hb dX11_requireKey_7 (by decide) (fun c => (z_lt bp1 (iv_k 32 (k := 32) (by decide)) (c_lt c) (by decide)).elim) (fun c2 => ?_)
  have c2 := c_nlt c2
  subst hQ
  obtain ⟨sa, hstr⟩ := mStrOf hE 17 (x := (RX11, 355, "no such key")) rfl
  refine vx_throwSW (names := ["java/lang/RuntimeException", "java/lang/Exception"]) hx hb hlf hown (by decide +kernel) (by decide +kernel) (hts (.classLink RX11 253 "java/lang/IndexOutOfBoundsException") (List.mem_of_getElem? (i := 1) rfl)) (hts (.initialized "java/lang/IndexOutOfBoundsException") (List.mem_of_getElem? (i := 2) rfl)) hstr (mHat hE (fun w h => hts w (List.mem_cons_of_mem _ (List.mem_append_right _ h))) bad_257) (mOt rfl rfl ot_257) hE.2.2.1 hE.2.2.2.1 hS (hl.1.trans hml.symm) dX11_requireKey_10 dX11_requireKey_13 dX11_requireKey_14 dX11_requireKey_17 dX11_requireKey_20 (fun x hx => (hno x hx).elim) (Nat.le_of_ble_eq_true rfl) (Nat.le_of_ble_eq_true rfl) (Nat.le_of_ble_eq_true rfl) (Nat.le_of_ble_eq_true rfl) hlk (fun t ht h1 h2 => ?_) hS.2.2 (Nat.le_of_ble_eq_true rfl) (Nat.le_of_ble_eq_true rfl)
  exact ⟨(), trivial, ⟨(by simp : "java/lang/IndexOutOfBoundsException" ∈ (["java/lang/IndexOutOfBoundsException"] : List String)), (mTh hP hS h1 h2).1⟩, (mTh hP hS h1 h2).2⟩
set_option maxHeartbeats 4000000 in
set_option maxRecDepth 100000 in
theorem kX11_requireUp_1 (l : Launch) (dC : Nat → ClassId) (dI : Nat → Nat → Nat) (cI cZ cC cJ cD : ClassId) (qf : Nat) (a0 a0_keys a0_store a0_mirror a0_sketch a0_memory a0_flash a0_pledges a0_leases a0_answers a0_choice a0_incoming : Nat) (sz : Nat) (v_a0_now v_a0_down : Int32) (bv_a0_now : 0 ≤ v_a0_now.toInt ∧ v_a0_now.toInt ≤ 0) (bv_a0_down : 0 ≤ v_a0_down.toInt ∧ v_a0_down.toInt ≤ 0) : Met l yX11_requireUp wsX11_requireUp ({ frames := 1, cells := 0, slots := 0, locals := 12 } : Room) (mPre qf [.ref a0] sz (dC, dI) (mT cI cZ cC cJ cD) [(a0, .inr (11, [.ref a0_keys, .ref a0_store, .ref a0_mirror, .ref a0_sketch, .ref a0_memory, .ref a0_flash, .ref a0_pledges, .ref a0_leases, .ref a0_answers, .ref a0_choice, .ref a0_incoming, .int v_a0_now, .int v_a0_down]))]) (mQv (fun (u : Unit) => True) (fun (u : Unit) => [(a0, .inr (11, [.ref a0_keys, .ref a0_store, .ref a0_mirror, .ref a0_sketch, .ref a0_memory, .ref a0_flash, .ref a0_pledges, .ref a0_leases, .ref a0_answers, .ref a0_choice, .ref a0_incoming, .int v_a0_now, .int v_a0_down]))]) (dC, dI) (va_A [(a0, .inr (11, [.ref a0_keys, .ref a0_store, .ref a0_mirror, .ref a0_sketch, .ref a0_memory, .ref a0_flash, .ref a0_pledges, .ref a0_leases, .ref a0_answers, .ref a0_choice, .ref a0_incoming, .int v_a0_now, .int v_a0_down]))] sz)) 0 0 (va_A [(a0, .inr (11, [.ref a0_keys, .ref a0_store, .ref a0_mirror, .ref a0_sketch, .ref a0_memory, .ref a0_flash, .ref a0_pledges, .ref a0_leases, .ref a0_answers, .ref a0_choice, .ref a0_incoming, .int v_a0_now, .int v_a0_down]))] sz) := by
  refine mMet (Qc := fun A => mQv (fun (u : Unit) => True) (fun (u : Unit) => [(a0, .inr (11, [.ref a0_keys, .ref a0_store, .ref a0_mirror, .ref a0_sketch, .ref a0_memory, .ref a0_flash, .ref a0_pledges, .ref a0_leases, .ref a0_answers, .ref a0_choice, .ref a0_incoming, .int v_a0_now, .int v_a0_down]))]) (dC, dI) A) (own := RX11) (by decide) rfl rfl (Nat.le_of_ble_eq_true rfl) ?_
  intro p e s m args below meth c hx hb hr hts hown hml hlk A hsz hP hK hD hS hA hE ls hl Q hQ
  have hl : lv_has ls 1 [(0, .ref a0)] := hl
  have hinX11 : ∀ w ∈ u_ws RX11 TX11 13, w ∈ wsX11_requireUp := fun w h => List.mem_cons_of_mem _ (List.mem_append_left _ (List.mem_append_right _ h))
  refine lv_aload_n hx hb dX11_requireUp_0 rfl (lv_at hl 0 rfl) ?_
  refine va_get (D := (dC, dI)) (ci := 11) (v := .int v_a0_down) (C := RX11) (T := TX11) (N := 13) hx hb hts hinX11 hown hK hP 0 rfl rfl 12 (by decide) (hts (.fieldLink RX11 92 "SlipstreamCache" "down" "Z") (List.mem_of_getElem? (i := 3) rfl)) (fun _ h9 => h9) rfl dX11_requireUp_1 ?_
  refine lv_if_eq (tgt := 18) hx hb dX11_requireUp_4 (by decide) (fun c1 => ?_) (fun c => (z_ne bv_a0_down (iv_k 0 (k := 0) (by decide)) (c_ne c) (by decide)).elim)
  have c1 := c_eq c1
  subst hQ
  exact W.vret hx hb hr (fun t ht hW => ⟨⟨(), rfl, trivial, by rw [ht]; exact hP⟩, hS.F ht⟩) hS.2.2 dX11_requireUp_18
set_option maxHeartbeats 4000000 in
set_option maxRecDepth 100000 in
theorem kX11_isKept_1 (l : Launch) (dC : Nat → ClassId) (dI : Nat → Nat → Nat) (cI cZ cC cJ cD : ClassId) (qf : Nat) (a0 a0_keys a0_store a0_mirror a0_sketch a0_memory a0_flash a0_pledges a0_leases a0_answers a0_choice a0_incoming a0_memory_copies a0_memory_present a0_memory_usedAt a0_flash_copies a0_flash_signs a0_flash_index a0_flash_wears : Nat) (sz : Nat) (f_a0_memory_present : Nat → Int32) (f_a0_flash_index : Nat → Int32) (v_a0_now v_a0_down v_a0_memory_uses v_a0_memory_filled v_a0_flash_next p1 : Int32) (rf_a0_memory_present : rg 0 0 32 f_a0_memory_present) (rf_a0_flash_index : rg (-1) (-1) 32 f_a0_flash_index) (bv_a0_now : 0 ≤ v_a0_now.toInt ∧ v_a0_now.toInt ≤ 0) (bv_a0_down : 0 ≤ v_a0_down.toInt ∧ v_a0_down.toInt ≤ 0) (bv_a0_memory_uses : 0 ≤ v_a0_memory_uses.toInt ∧ v_a0_memory_uses.toInt ≤ 0) (bv_a0_memory_filled : 0 ≤ v_a0_memory_filled.toInt ∧ v_a0_memory_filled.toInt ≤ 0) (bv_a0_flash_next : 0 ≤ v_a0_flash_next.toInt ∧ v_a0_flash_next.toInt ≤ 0) (bp1 : 0 ≤ p1.toInt ∧ p1.toInt ≤ 31) : Met l yX11_isKept wsX11_isKept ({ frames := 1, cells := 0, slots := 0, locals := 13 } : Room) (mPre qf [.ref a0, .int p1] sz (dC, dI) (mT cI cZ cC cJ cD) [(a0, .inr (11, [.ref a0_keys, .ref a0_store, .ref a0_mirror, .ref a0_sketch, .ref a0_memory, .ref a0_flash, .ref a0_pledges, .ref a0_leases, .ref a0_answers, .ref a0_choice, .ref a0_incoming, .int v_a0_now, .int v_a0_down])), (a0_memory, .inr (6, [.ref a0_memory_copies, .ref a0_memory_present, .ref a0_memory_usedAt, .int v_a0_memory_uses, .int v_a0_memory_filled])), (a0_flash, .inr (3, [.ref a0_flash_copies, .ref a0_flash_signs, .ref a0_flash_index, .ref a0_flash_wears, .int v_a0_flash_next])), (a0_memory_present, .inl (cZ, 32, .inl f_a0_memory_present)), (a0_flash_index, .inl (cI, 32, .inl f_a0_flash_index))]) (mQi (fun (r : Int32) (u : Unit) => (0 ≤ r.toInt ∧ r.toInt ≤ 0) ∧ True) (fun (u : Unit) => [(a0, .inr (11, [.ref a0_keys, .ref a0_store, .ref a0_mirror, .ref a0_sketch, .ref a0_memory, .ref a0_flash, .ref a0_pledges, .ref a0_leases, .ref a0_answers, .ref a0_choice, .ref a0_incoming, .int v_a0_now, .int v_a0_down])), (a0_memory, .inr (6, [.ref a0_memory_copies, .ref a0_memory_present, .ref a0_memory_usedAt, .int v_a0_memory_uses, .int v_a0_memory_filled])), (a0_flash, .inr (3, [.ref a0_flash_copies, .ref a0_flash_signs, .ref a0_flash_index, .ref a0_flash_wears, .int v_a0_flash_next])), (a0_memory_present, .inl (cZ, 32, .inl f_a0_memory_present)), (a0_flash_index, .inl (cI, 32, .inl f_a0_flash_index))]) (dC, dI) (va_A [(a0, .inr (11, [.ref a0_keys, .ref a0_store, .ref a0_mirror, .ref a0_sketch, .ref a0_memory, .ref a0_flash, .ref a0_pledges, .ref a0_leases, .ref a0_answers, .ref a0_choice, .ref a0_incoming, .int v_a0_now, .int v_a0_down])), (a0_memory, .inr (6, [.ref a0_memory_copies, .ref a0_memory_present, .ref a0_memory_usedAt, .int v_a0_memory_uses, .int v_a0_memory_filled])), (a0_flash, .inr (3, [.ref a0_flash_copies, .ref a0_flash_signs, .ref a0_flash_index, .ref a0_flash_wears, .int v_a0_flash_next])), (a0_memory_present, .inl (cZ, 32, .inl f_a0_memory_present)), (a0_flash_index, .inl (cI, 32, .inl f_a0_flash_index))] sz)) 0 0 (va_A [(a0, .inr (11, [.ref a0_keys, .ref a0_store, .ref a0_mirror, .ref a0_sketch, .ref a0_memory, .ref a0_flash, .ref a0_pledges, .ref a0_leases, .ref a0_answers, .ref a0_choice, .ref a0_incoming, .int v_a0_now, .int v_a0_down])), (a0_memory, .inr (6, [.ref a0_memory_copies, .ref a0_memory_present, .ref a0_memory_usedAt, .int v_a0_memory_uses, .int v_a0_memory_filled])), (a0_flash, .inr (3, [.ref a0_flash_copies, .ref a0_flash_signs, .ref a0_flash_index, .ref a0_flash_wears, .int v_a0_flash_next])), (a0_memory_present, .inl (cZ, 32, .inl f_a0_memory_present)), (a0_flash_index, .inl (cI, 32, .inl f_a0_flash_index))] sz) := by
  refine mMet (Qc := fun A => mQi (fun (r : Int32) (u : Unit) => (0 ≤ r.toInt ∧ r.toInt ≤ 0) ∧ True) (fun (u : Unit) => [(a0, .inr (11, [.ref a0_keys, .ref a0_store, .ref a0_mirror, .ref a0_sketch, .ref a0_memory, .ref a0_flash, .ref a0_pledges, .ref a0_leases, .ref a0_answers, .ref a0_choice, .ref a0_incoming, .int v_a0_now, .int v_a0_down])), (a0_memory, .inr (6, [.ref a0_memory_copies, .ref a0_memory_present, .ref a0_memory_usedAt, .int v_a0_memory_uses, .int v_a0_memory_filled])), (a0_flash, .inr (3, [.ref a0_flash_copies, .ref a0_flash_signs, .ref a0_flash_index, .ref a0_flash_wears, .int v_a0_flash_next])), (a0_memory_present, .inl (cZ, 32, .inl f_a0_memory_present)), (a0_flash_index, .inl (cI, 32, .inl f_a0_flash_index))]) (dC, dI) A) (own := RX11) (by decide) rfl rfl (Nat.le_of_ble_eq_true rfl) ?_
  intro p e s m args below meth c hx hb hr hts hown hml hlk A hsz hP hK hD hS hA hE ls hl Q hQ
  have hl : lv_has ls 2 [(0, .ref a0), (1, .int p1)] := hl
  have hinX11 : ∀ w ∈ u_ws RX11 TX11 13, w ∈ wsX11_isKept := fun w h => List.mem_cons_of_mem _ (List.mem_append_left _ (List.mem_append_left _ (List.mem_append_left _ (List.mem_append_right _ h))))
  have hinX6 : ∀ w ∈ u_ws RX6 TX6 5, w ∈ wsX11_isKept := fun w h => List.mem_cons_of_mem _ (List.mem_append_left _ (List.mem_append_left _ (List.mem_append_right _ h)))
  have hinX3 : ∀ w ∈ u_ws RX3 TX3 5, w ∈ wsX11_isKept := fun w h => List.mem_cons_of_mem _ (List.mem_append_left _ (List.mem_append_right _ h))
  refine lv_aload_n hx hb dX11_isKept_0 rfl (lv_at hl 0 rfl) ?_
  refine va_get (D := (dC, dI)) (ci := 11) (v := .ref a0_memory) (C := RX11) (T := TX11) (N := 13) hx hb hts hinX11 hown hK hP 0 rfl rfl 4 (by decide) (hts (.fieldLink RX11 40 "SlipstreamCache" "memory" "LSlipstreamCache$Memory;") (List.mem_of_getElem? (i := 1) rfl)) (fun _ h9 => h9) rfl dX11_isKept_1 ?_
  refine va_get (D := (dC, dI)) (ci := 6) (v := .ref a0_memory_present) (C := RX6) (T := TX6) (N := 5) hx hb hts hinX6 hown hK hP 1 rfl rfl 1 (by decide) (hts (.fieldLink RX11 292 "SlipstreamCache$Memory" "present" "[Z") (List.mem_of_getElem? (i := 2) rfl)) (fun _ h9 => h9) rfl dX11_isKept_4 ?_
  refine lv_iload_n hx hb dX11_isKept_7 rfl (lv_at hl 1 rfl) ?_
  refine va_zald hx hb hK hP 3 1 rfl rfl (iv_in bp1 (by decide) (by decide)) dX11_isKept_8 ?_
  refine lv_topi (fun z1 ez1 => ?_)
  have bz1 : 0 ≤ z1.toInt ∧ z1.toInt ≤ 0 := iv_at rf_a0_memory_present bp1 (by decide) (by decide) ez1
  refine lv_if_ne (tgt := 25) hx hb dX11_isKept_9 (by decide) (fun c => (z_ne bz1 (iv_k 0 (k := 0) (by decide)) (c_ne c) (by decide)).elim) (fun c2 => ?_)
  have c2 := c_eq c2
  refine lv_aload_n hx hb dX11_isKept_12 rfl (lv_at hl 0 rfl) ?_
  refine va_get (D := (dC, dI)) (ci := 11) (v := .ref a0_flash) (C := RX11) (T := TX11) (N := 13) hx hb hts hinX11 hown hK hP 0 rfl rfl 5 (by decide) (hts (.fieldLink RX11 47 "SlipstreamCache" "flash" "LSlipstreamCache$Flash;") (List.mem_of_getElem? (i := 3) rfl)) (fun _ h9 => h9) rfl dX11_isKept_13 ?_
  refine va_get (D := (dC, dI)) (ci := 3) (v := .ref a0_flash_index) (C := RX3) (T := TX3) (N := 5) hx hb hts hinX3 hown hK hP 2 rfl rfl 2 (by decide) (hts (.fieldLink RX11 295 "SlipstreamCache$Flash" "index" "[I") (List.mem_of_getElem? (i := 4) rfl)) (fun _ h9 => h9) rfl dX11_isKept_16 ?_
  refine lv_iload_n hx hb dX11_isKept_19 rfl (lv_at hl 1 rfl) ?_
  refine va_iald hx hb hK hP 4 0 rfl rfl (iv_in bp1 (by decide) (by decide)) dX11_isKept_20 ?_
  refine lv_topi (fun z3 ez3 => ?_)
  have bz3 : (-1) ≤ z3.toInt ∧ z3.toInt ≤ (-1) := iv_at rf_a0_flash_index bp1 (by decide) (by decide) ez3
  refine lv_iconst (v := (-1)) hx hb dX11_isKept_21 (by decide) ?_
  refine lv_icmp_eq (tgt := 29) hx hb dX11_isKept_22 (by decide) (fun c4 => ?_) (fun c => (z_ne bz3 (iv_k (-1) (k := (-1)) (by decide)) (c_ne c) (by decide)).elim)
  have c4 := c_eq c4
  refine lv_iconst (v := 0) hx hb dX11_isKept_29 (by decide) ?_
  subst hQ
  exact W.zret (v := (0 : Int32)) hx hb hr (nar_b (iv_k 0 (k := 0) (by decide)) (by decide) (by decide)) (fun t ht hW => ⟨⟨(0 : Int32), (), rfl, ⟨iv_m (iv_k 0 (k := 0) (by decide)) (by decide) (by decide), trivial⟩, by rw [ht]; exact hP⟩, hS.F ht⟩) hS.2.2 dX11_isKept_30
set_option maxHeartbeats 4000000 in
set_option maxRecDepth 100000 in
theorem kX5_give_1 (l : Launch) (dC : Nat → ClassId) (dI : Nat → Nat → Nat) (cI cZ cC cJ cD : ClassId) (qf : Nat) (a0 a0_copies a0_keyOf a0_given a0_wasRead a0_ends : Nat) (sz : Nat) (f_a0_keyOf : Nat → Int32) (f_a0_given : Nat → Int32) (f_a0_ends : Nat → Int32) (v_a0_count p1 p2 p3 : Int32) (rf_a0_keyOf : rg 0 0 60 f_a0_keyOf) (rf_a0_given : rg 0 0 60 f_a0_given) (rf_a0_ends : rg 0 0 60 f_a0_ends) (bv_a0_count : 0 ≤ v_a0_count.toInt ∧ v_a0_count.toInt ≤ 0) (bp1 : 0 ≤ p1.toInt ∧ p1.toInt ≤ 31) (bp2 : 0 ≤ p2.toInt ∧ p2.toInt ≤ 0) (bp3 : 1 ≤ p3.toInt ∧ p3.toInt ≤ 1) : Met l yX5_give wsX5_give ({ frames := 1, cells := 0, slots := 0, locals := 15 } : Room) (mPre qf [.ref a0, .int p1, .int p2, .int p3] sz (dC, dI) (mT cI cZ cC cJ cD) [(a0, .inr (5, [.ref a0_copies, .ref a0_keyOf, .ref a0_given, .ref a0_wasRead, .ref a0_ends, .int v_a0_count, .long 0])), (a0_keyOf, .inl (cI, 60, .inl f_a0_keyOf)), (a0_given, .inl (cI, 60, .inl f_a0_given)), (a0_ends, .inl (cC, 60, .inl f_a0_ends))]) (mQv (fun (u : (Int32) × (Int64) × (Nat → Int32) × (Nat → Int32) × (Nat → Int32)) => (1 ≤ (u.1).toInt ∧ (u.1).toInt ≤ 1) ∧ rg 0 31 60 (u.2.2.1) ∧ rg 0 0 60 (u.2.2.2.1) ∧ rg 0 111 60 (u.2.2.2.2) ∧ True) (fun (u : (Int32) × (Int64) × (Nat → Int32) × (Nat → Int32) × (Nat → Int32)) => [(a0, .inr (5, [.ref a0_copies, .ref a0_keyOf, .ref a0_given, .ref a0_wasRead, .ref a0_ends, .int (u.1), .long (u.2.1)])), (a0_keyOf, .inl (cI, 60, .inl (u.2.2.1))), (a0_given, .inl (cI, 60, .inl (u.2.2.2.1))), (a0_ends, .inl (cC, 60, .inl (u.2.2.2.2)))]) (dC, dI) (va_A [(a0, .inr (5, [.ref a0_copies, .ref a0_keyOf, .ref a0_given, .ref a0_wasRead, .ref a0_ends, .int v_a0_count, .long 0])), (a0_keyOf, .inl (cI, 60, .inl f_a0_keyOf)), (a0_given, .inl (cI, 60, .inl f_a0_given)), (a0_ends, .inl (cC, 60, .inl f_a0_ends))] sz)) 0 0 (va_A [(a0, .inr (5, [.ref a0_copies, .ref a0_keyOf, .ref a0_given, .ref a0_wasRead, .ref a0_ends, .int v_a0_count, .long 0])), (a0_keyOf, .inl (cI, 60, .inl f_a0_keyOf)), (a0_given, .inl (cI, 60, .inl f_a0_given)), (a0_ends, .inl (cC, 60, .inl f_a0_ends))] sz) := by
  refine mMet (Qc := fun A => mQv (fun (u : (Int32) × (Int64) × (Nat → Int32) × (Nat → Int32) × (Nat → Int32)) => (1 ≤ (u.1).toInt ∧ (u.1).toInt ≤ 1) ∧ rg 0 31 60 (u.2.2.1) ∧ rg 0 0 60 (u.2.2.2.1) ∧ rg 0 111 60 (u.2.2.2.2) ∧ True) (fun (u : (Int32) × (Int64) × (Nat → Int32) × (Nat → Int32) × (Nat → Int32)) => [(a0, .inr (5, [.ref a0_copies, .ref a0_keyOf, .ref a0_given, .ref a0_wasRead, .ref a0_ends, .int (u.1), .long (u.2.1)])), (a0_keyOf, .inl (cI, 60, .inl (u.2.2.1))), (a0_given, .inl (cI, 60, .inl (u.2.2.2.1))), (a0_ends, .inl (cC, 60, .inl (u.2.2.2.2)))]) (dC, dI) A) (own := RX5) (by decide) rfl rfl (Nat.le_of_ble_eq_true rfl) ?_
  intro p e s m args below meth c hx hb hr hts hown hml hlk A hsz hP hK hD hS hA hE ls hl Q hQ
  have hl : lv_has ls 4 [(0, .ref a0), (1, .int p1), (2, .int p2), (3, .int p3)] := hl
  have hinX5 : ∀ w ∈ u_ws RX5 TX5 7, w ∈ wsX5_give := fun w h => List.mem_cons_of_mem _ (List.mem_append_left _ (List.mem_append_right _ h))
  refine lv_aload_n hx hb dX5_give_0 rfl (lv_at hl 0 rfl) ?_
  refine va_get (D := (dC, dI)) (ci := 5) (v := .int v_a0_count) (C := RX5) (T := TX5) (N := 7) hx hb hts hinX5 hown hK hP 0 rfl rfl 5 (by decide) (hts (.fieldLink RX5 35 "SlipstreamCache$Leases" "count" "I") (List.mem_of_getElem? (i := 1) rfl)) (fun _ h9 => h9) rfl dX5_give_1 ?_
  refine lv_bipush (v := 60) hx hb dX5_give_4 (by decide) ?_
  refine lv_icmp_ge (tgt := 61) hx hb dX5_give_6 (by decide) (fun c => (z_le (iv_k 60 (k := 60) (by decide)) bv_a0_count (c_le c) (by decide)).elim) (fun c1 => ?_)
  have c1 := c_nle c1
  refine lv_aload_n hx hb dX5_give_9 rfl (lv_at hl 0 rfl) ?_
  refine va_get (D := (dC, dI)) (ci := 5) (v := .ref a0_keyOf) (C := RX5) (T := TX5) (N := 7) hx hb hts hinX5 hown hK hP 0 rfl rfl 1 (by decide) (hts (.fieldLink RX5 20 "SlipstreamCache$Leases" "keyOf" "[I") (List.mem_of_getElem? (i := 2) rfl)) (fun _ h9 => h9) rfl dX5_give_10 ?_
  refine lv_aload_n hx hb dX5_give_13 rfl (lv_at hl 0 rfl) ?_
  refine va_get (D := (dC, dI)) (ci := 5) (v := .int v_a0_count) (C := RX5) (T := TX5) (N := 7) hx hb hts hinX5 hown hK hP 0 rfl rfl 5 (by decide) (hts (.fieldLink RX5 35 "SlipstreamCache$Leases" "count" "I") (List.mem_of_getElem? (i := 1) rfl)) (fun _ h9 => h9) rfl dX5_give_14 ?_
  refine lv_iload_n hx hb dX5_give_17 rfl (lv_at hl 1 rfl) ?_
  refine va_iast hx hb hK hP (hD.to rfl) hS 1 0 rfl rfl (iv_in bv_a0_count (by decide) (by decide)) dX5_give_18 (fun H locs hP _ hS => ?_)
  obtain ⟨f2, ef2⟩ : ∃ y, y = upd f_a0_keyOf (v_a0_count).toNatClampNeg p1 := ⟨_, rfl⟩
  rw [← ef2] at hP
  have rf2 : rg 0 31 60 f2 := by rw [ef2]; exact (rg.mono rf_a0_keyOf (by decide) (by decide)).up (iv_m bp1 (by decide) (by decide))
  have hP : va_P (dC, dI) vqCl [(a0, .inr (5, [.ref a0_copies, .ref a0_keyOf, .ref a0_given, .ref a0_wasRead, .ref a0_ends, .int v_a0_count, .long 0])), (a0_keyOf, .inl (cI, 60, .inl f2)), (a0_given, .inl (cI, 60, .inl f_a0_given)), (a0_ends, .inl (cC, 60, .inl f_a0_ends))] H := hP
  refine lv_aload_n hx hb dX5_give_19 rfl (lv_at hl 0 rfl) ?_
  refine va_get (D := (dC, dI)) (ci := 5) (v := .ref a0_given) (C := RX5) (T := TX5) (N := 7) hx hb hts hinX5 hown hK hP 0 rfl rfl 2 (by decide) (hts (.fieldLink RX5 24 "SlipstreamCache$Leases" "given" "[I") (List.mem_of_getElem? (i := 3) rfl)) (fun _ h9 => h9) rfl dX5_give_20 ?_
  refine lv_aload_n hx hb dX5_give_23 rfl (lv_at hl 0 rfl) ?_
  refine va_get (D := (dC, dI)) (ci := 5) (v := .int v_a0_count) (C := RX5) (T := TX5) (N := 7) hx hb hts hinX5 hown hK hP 0 rfl rfl 5 (by decide) (hts (.fieldLink RX5 35 "SlipstreamCache$Leases" "count" "I") (List.mem_of_getElem? (i := 1) rfl)) (fun _ h9 => h9) rfl dX5_give_24 ?_
  refine lv_iload_n hx hb dX5_give_27 rfl (lv_at hl 2 rfl) ?_
  refine va_iast hx hb hK hP (hD.to rfl) hS 2 0 rfl rfl (iv_in bv_a0_count (by decide) (by decide)) dX5_give_28 (fun H locs hP _ hS => ?_)
  obtain ⟨f3, ef3⟩ : ∃ y, y = upd f_a0_given (v_a0_count).toNatClampNeg p2 := ⟨_, rfl⟩
  rw [← ef3] at hP
  have rf3 : rg 0 0 60 f3 := by rw [ef3]; exact (rg.mono rf_a0_given (by decide) (by decide)).up (iv_m bp2 (by decide) (by decide))
  have hP : va_P (dC, dI) vqCl [(a0, .inr (5, [.ref a0_copies, .ref a0_keyOf, .ref a0_given, .ref a0_wasRead, .ref a0_ends, .int v_a0_count, .long 0])), (a0_keyOf, .inl (cI, 60, .inl f2)), (a0_given, .inl (cI, 60, .inl f3)), (a0_ends, .inl (cC, 60, .inl f_a0_ends))] H := hP
  refine lv_aload_n hx hb dX5_give_29 rfl (lv_at hl 0 rfl) ?_
  refine va_get (D := (dC, dI)) (ci := 5) (v := .ref a0_ends) (C := RX5) (T := TX5) (N := 7) hx hb hts hinX5 hown hK hP 0 rfl rfl 4 (by decide) (hts (.fieldLink RX5 31 "SlipstreamCache$Leases" "ends" "[C") (List.mem_of_getElem? (i := 4) rfl)) (fun _ h9 => h9) rfl dX5_give_30 ?_
  refine lv_aload_n hx hb dX5_give_33 rfl (lv_at hl 0 rfl) ?_
  refine va_get (D := (dC, dI)) (ci := 5) (v := .int v_a0_count) (C := RX5) (T := TX5) (N := 7) hx hb hts hinX5 hown hK hP 0 rfl rfl 5 (by decide) (hts (.fieldLink RX5 35 "SlipstreamCache$Leases" "count" "I") (List.mem_of_getElem? (i := 1) rfl)) (fun _ h9 => h9) rfl dX5_give_34 ?_
  refine lv_bipush (v := 111) hx hb dX5_give_37 (by decide) ?_
  refine va_cast hx hb hK hP (hD.to rfl) hS 3 2 rfl rfl (iv_in bv_a0_count (by decide) (by decide)) dX5_give_39 (fun H locs hP _ hS => ?_)
  rw [nar_cz (iv_k 111 (k := 111) (by decide)) (by decide) (by decide)] at hP
  obtain ⟨f4, ef4⟩ : ∃ y, y = upd f_a0_ends (v_a0_count).toNatClampNeg (111 : Int32) := ⟨_, rfl⟩
  rw [← ef4] at hP
  have rf4 : rg 0 111 60 f4 := by rw [ef4]; exact (rg.mono rf_a0_ends (by decide) (by decide)).up (iv_m (iv_k 111 (k := 111) (by decide)) (by decide) (by decide))
  have tf4 : 111 ≤ (f4 (v_a0_count).toNatClampNeg).toInt ∧ (f4 (v_a0_count).toNatClampNeg).toInt ≤ 111 := by rw [ef4, pk_us]; exact (iv_k 111 (k := 111) (by decide))
  have hP : va_P (dC, dI) vqCl [(a0, .inr (5, [.ref a0_copies, .ref a0_keyOf, .ref a0_given, .ref a0_wasRead, .ref a0_ends, .int v_a0_count, .long 0])), (a0_keyOf, .inl (cI, 60, .inl f2)), (a0_given, .inl (cI, 60, .inl f3)), (a0_ends, .inl (cC, 60, .inl f4))] H := hP
  refine lv_aload_n hx hb dX5_give_40 rfl (lv_at hl 0 rfl) ?_
  refine lv_dup hx hb dX5_give_41 rfl ?_
  refine va_get (D := (dC, dI)) (ci := 5) (v := .int v_a0_count) (C := RX5) (T := TX5) (N := 7) hx hb hts hinX5 hown hK hP 0 rfl rfl 5 (by decide) (hts (.fieldLink RX5 35 "SlipstreamCache$Leases" "count" "I") (List.mem_of_getElem? (i := 1) rfl)) (fun _ h9 => h9) rfl dX5_give_42 ?_
  refine lv_iconst (v := 1) hx hb dX5_give_45 (by decide) ?_
  refine lv_iadd hx hb dX5_give_46 ?_
  refine lv_topi (fun z5 ez5 => ?_)
  have qz5 := iv_add (lo := 1) (hi := 1) ez5 bv_a0_count (iv_k 1 (k := 1) (by decide)) (by decide) (by decide) (by decide) (by decide) 
  rw [show (1 : Int32).toInt = 1 from rfl] at qz5
  obtain rfl : z5 = (1 : Int32) := iv_sg (k := 1) qz5.2 (by decide)
  refine va_put (D := (dC, dI)) (ci := 5) (v := .int 1) (ty := .int) (C := RX5) (T := TX5) (N := 7) hx hb hts hinX5 tyX5 tyX5_ok nmX5 hown hK hP (hD.to rfl) hS 0 rfl rfl 5 (by decide) (hts (.fieldLink RX5 35 "SlipstreamCache$Leases" "count" "I") (List.mem_of_getElem? (i := 1) rfl)) (fun _ h9 => h9) rfl (by decide +kernel) rfl rfl (Nat.le_of_ble_eq_true rfl) dX5_give_47 (fun H locs hP _ hS => ?_)
  have hP : va_P (dC, dI) vqCl [(a0, .inr (5, [.ref a0_copies, .ref a0_keyOf, .ref a0_given, .ref a0_wasRead, .ref a0_ends, .int 1, .long 0])), (a0_keyOf, .inl (cI, 60, .inl f2)), (a0_given, .inl (cI, 60, .inl f3)), (a0_ends, .inl (cC, 60, .inl f4))] H := hP
  refine lv_aload_n hx hb dX5_give_50 rfl (lv_at hl 0 rfl) ?_
  refine lv_dup hx hb dX5_give_51 rfl ?_
  refine va_get (D := (dC, dI)) (ci := 5) (v := .long 0) (C := RX5) (T := TX5) (N := 7) hx hb hts hinX5 hown hK hP 0 rfl rfl 6 (by decide) (hts (.fieldLink RX5 39 "SlipstreamCache$Leases" "costs" "J") (List.mem_of_getElem? (i := 5) rfl)) (fun _ h9 => h9) rfl dX5_give_52 ?_
  refine lv_iload_n hx hb dX5_give_55 rfl (lv_at hl 3 rfl) ?_
  obtain ⟨z6, ez6⟩ : ∃ y : Int64, y = (p3).toInt64 := ⟨_, rfl⟩
  refine lv_i2l (v := z6) hx hb dX5_give_56 ez6.symm ?_
  have bz6 : 1 ≤ z6.toInt ∧ z6.toInt ≤ 1 := iv_i2l ez6 bp3
  refine lv_ladd hx hb dX5_give_57 ?_
  refine lv_topl (fun z7 ez7 => ?_)
  refine va_put (D := (dC, dI)) (ci := 5) (v := .long z7) (ty := .long) (C := RX5) (T := TX5) (N := 7) hx hb hts hinX5 tyX5 tyX5_ok nmX5 hown hK hP (hD.to rfl) hS 0 rfl rfl 6 (by decide) (hts (.fieldLink RX5 39 "SlipstreamCache$Leases" "costs" "J") (List.mem_of_getElem? (i := 5) rfl)) (fun _ h9 => h9) rfl (by decide +kernel) rfl rfl (Nat.le_of_ble_eq_true rfl) dX5_give_58 (fun H locs hP _ hS => ?_)
  have hP : va_P (dC, dI) vqCl [(a0, .inr (5, [.ref a0_copies, .ref a0_keyOf, .ref a0_given, .ref a0_wasRead, .ref a0_ends, .int 1, .long z7])), (a0_keyOf, .inl (cI, 60, .inl f2)), (a0_given, .inl (cI, 60, .inl f3)), (a0_ends, .inl (cC, 60, .inl f4))] H := hP
  subst hQ
  exact W.vret hx hb hr (fun t ht hW => ⟨⟨((1 : Int32), z7, f2, f3, f4), rfl, ⟨iv_m (iv_k 1 (k := 1) (by decide)) (by decide) (by decide), rg.mono rf2 (by decide) (by decide), rg.mono rf3 (by decide) (by decide), rg.mono rf4 (by decide) (by decide), trivial⟩, by rw [ht]; exact hP⟩, hS.F ht⟩) hS.2.2 dX5_give_61
set_option maxHeartbeats 4000000 in
set_option maxRecDepth 100000 in
theorem kX9_placeOf_1 (l : Launch) (dC : Nat → ClassId) (dI : Nat → Nat → Nat) (cI cZ cC cJ cD : ClassId) (qf : Nat) (sz : Nat) (p1 p2 : Int32) (bp1 : 0 ≤ p1.toInt ∧ p1.toInt ≤ 31) (bp2 : 0 ≤ p2.toInt ∧ p2.toInt ≤ 0) : Met l yX9_placeOf wsX9_placeOf ({ frames := 1, cells := 0, slots := 0, locals := 13 } : Room) (mPre qf [.int p1, .int p2] sz (dC, dI) (mT cI cZ cC cJ cD) []) (mQi (fun (r : Int32) (u : Unit) => (0 ≤ r.toInt ∧ r.toInt ≤ 15) ∧ True) (fun (u : Unit) => []) (dC, dI) (va_A [] sz)) 0 0 (va_A [] sz) := by
  refine mMet (Qc := fun A => mQi (fun (r : Int32) (u : Unit) => (0 ≤ r.toInt ∧ r.toInt ≤ 15) ∧ True) (fun (u : Unit) => []) (dC, dI) A) (own := RX9) (by decide) rfl rfl (Nat.le_of_ble_eq_true rfl) ?_
  intro p e s m args below meth c hx hb hr hts hown hml hlk A hsz hP hK hD hS hA hE ls hl Q hQ
  have hl : lv_has ls 2 [(0, .int p1), (1, .int p2)] := hl
  refine lv_iload_n hx hb dX9_placeOf_0 rfl (lv_at hl 1 rfl) ?_
  refine lv_bipush (v := 16) hx hb dX9_placeOf_1 (by decide) ?_
  refine lv_imul hx hb dX9_placeOf_3 ?_
  refine lv_topi (fun z1 ez1 => ?_)
  have qz1 := iv_mul (lo := 0) (hi := 0) ez1 bp2 (iv_k 16 (k := 16) (by decide)) (by decide) (by decide) (by decide) (by decide) (by decide) (by decide) 
  rw [show (16 : Int32).toInt = 16 from rfl] at qz1
  obtain rfl : z1 = (0 : Int32) := iv_sg (k := 0) qz1.2 (by decide)
  refine lv_iload_n hx hb dX9_placeOf_4 rfl (lv_at hl 0 rfl) ?_
  refine va_getsN hx hb hE.1 hS hown (hE.2.2.2.2.1.use rfl) (fun _ h9 => h9) dX9_placeOf_5 ?_
  refine lv_iload_n hx hb dX9_placeOf_8 rfl (lv_at hl 1 rfl) ?_
  refine va_ti (v := .int (fRF (p2).toNatClampNeg)) hx hb hE.2.1 hS (iv_in bp2 (by decide) (by decide)) rfl dX9_placeOf_9 ?_
  refine lv_topi (fun z2 ez2 => ?_)
  have bz2 : 5 ≤ z2.toInt ∧ z2.toInt ≤ 13 := iv_at rgRF bp2 (by decide) (by decide) ez2
  refine lv_imul hx hb dX9_placeOf_10 ?_
  refine lv_topi (fun z3 ez3 => ?_)
  have qz3 := iv_mul (lo := 0) (hi := 403) ez3 bp1 bz2 (by decide) (by decide) (by decide) (by decide) (by decide) (by decide) 
  refine lv_iconst (v := 3) hx hb dX9_placeOf_11 (by decide) ?_
  refine lv_iload_n hx hb dX9_placeOf_12 rfl (lv_at hl 1 rfl) ?_
  refine lv_imul hx hb dX9_placeOf_13 ?_
  refine lv_topi (fun z4 ez4 => ?_)
  have qz4 := iv_mul (lo := 0) (hi := 0) ez4 (iv_k 3 (k := 3) (by decide)) bp2 (by decide) (by decide) (by decide) (by decide) (by decide) (by decide) 
  rw [show (3 : Int32).toInt = 3 from rfl] at qz4
  obtain rfl : z4 = (0 : Int32) := iv_sg (k := 0) qz4.2 (by decide)
  refine lv_iadd hx hb dX9_placeOf_14 ?_
  refine lv_topi (fun z5 ez5 => ?_)
  have qz5 := iv_add (lo := 0) (hi := 403) ez5 qz3.2 (iv_k 0 (k := 0) (by decide)) (by decide) (by decide) (by decide) (by decide) 
  rw [show (0 : Int32).toInt = 0 from rfl] at qz5
  refine lv_bipush (v := 15) hx hb dX9_placeOf_15 (by decide) ?_
  refine lv_iand hx hb dX9_placeOf_17 ?_
  refine lv_topi (fun z6 ez6 => ?_)
  have qz6 : 0 ≤ z6.toInt ∧ z6.toInt ≤ 15 := iv_and ez6 (k := 4) (by decide) (by decide) (by decide)
  refine lv_iadd hx hb dX9_placeOf_18 ?_
  refine lv_topi (fun z7 ez7 => ?_)
  have qz7 := iv_add (lo := 0) (hi := 15) ez7 (iv_k 0 (k := 0) (by decide)) qz6 (by decide) (by decide) (by decide) (by decide) 
  rw [show (0 : Int32).toInt = 0 from rfl] at qz7
  subst hQ
  exact W.iret (v := z7) hx hb hr (fun t ht hW => ⟨⟨z7, (), rfl, ⟨iv_m qz7.2 (by decide) (by decide), trivial⟩, by rw [ht]; exact hP⟩, hS.F ht⟩) hS.2.2 dX9_placeOf_19
set_option maxHeartbeats 4000000 in
set_option maxRecDepth 100000 in
theorem kX9_placeOf_2 (l : Launch) (dC : Nat → ClassId) (dI : Nat → Nat → Nat) (cI cZ cC cJ cD : ClassId) (qf : Nat) (sz : Nat) (p1 p2 : Int32) (bp1 : 0 ≤ p1.toInt ∧ p1.toInt ≤ 31) (bp2 : 1 ≤ p2.toInt ∧ p2.toInt ≤ 1) : Met l yX9_placeOf wsX9_placeOf ({ frames := 1, cells := 0, slots := 0, locals := 13 } : Room) (mPre qf [.int p1, .int p2] sz (dC, dI) (mT cI cZ cC cJ cD) []) (mQi (fun (r : Int32) (u : Unit) => (16 ≤ r.toInt ∧ r.toInt ≤ 31) ∧ True) (fun (u : Unit) => []) (dC, dI) (va_A [] sz)) 0 0 (va_A [] sz) := by
  refine mMet (Qc := fun A => mQi (fun (r : Int32) (u : Unit) => (16 ≤ r.toInt ∧ r.toInt ≤ 31) ∧ True) (fun (u : Unit) => []) (dC, dI) A) (own := RX9) (by decide) rfl rfl (Nat.le_of_ble_eq_true rfl) ?_
  intro p e s m args below meth c hx hb hr hts hown hml hlk A hsz hP hK hD hS hA hE ls hl Q hQ
  have hl : lv_has ls 2 [(0, .int p1), (1, .int p2)] := hl
  refine lv_iload_n hx hb dX9_placeOf_0 rfl (lv_at hl 1 rfl) ?_
  refine lv_bipush (v := 16) hx hb dX9_placeOf_1 (by decide) ?_
  refine lv_imul hx hb dX9_placeOf_3 ?_
  refine lv_topi (fun z1 ez1 => ?_)
  have qz1 := iv_mul (lo := 16) (hi := 16) ez1 bp2 (iv_k 16 (k := 16) (by decide)) (by decide) (by decide) (by decide) (by decide) (by decide) (by decide) 
  rw [show (16 : Int32).toInt = 16 from rfl] at qz1
  obtain rfl : z1 = (16 : Int32) := iv_sg (k := 16) qz1.2 (by decide)
  refine lv_iload_n hx hb dX9_placeOf_4 rfl (lv_at hl 0 rfl) ?_
  refine va_getsN hx hb hE.1 hS hown (hE.2.2.2.2.1.use rfl) (fun _ h9 => h9) dX9_placeOf_5 ?_
  refine lv_iload_n hx hb dX9_placeOf_8 rfl (lv_at hl 1 rfl) ?_
  refine va_ti (v := .int (fRF (p2).toNatClampNeg)) hx hb hE.2.1 hS (iv_in bp2 (by decide) (by decide)) rfl dX9_placeOf_9 ?_
  refine lv_topi (fun z2 ez2 => ?_)
  have bz2 : 5 ≤ z2.toInt ∧ z2.toInt ≤ 13 := iv_at rgRF bp2 (by decide) (by decide) ez2
  refine lv_imul hx hb dX9_placeOf_10 ?_
  refine lv_topi (fun z3 ez3 => ?_)
  have qz3 := iv_mul (lo := 0) (hi := 403) ez3 bp1 bz2 (by decide) (by decide) (by decide) (by decide) (by decide) (by decide) 
  refine lv_iconst (v := 3) hx hb dX9_placeOf_11 (by decide) ?_
  refine lv_iload_n hx hb dX9_placeOf_12 rfl (lv_at hl 1 rfl) ?_
  refine lv_imul hx hb dX9_placeOf_13 ?_
  refine lv_topi (fun z4 ez4 => ?_)
  have qz4 := iv_mul (lo := 3) (hi := 3) ez4 (iv_k 3 (k := 3) (by decide)) bp2 (by decide) (by decide) (by decide) (by decide) (by decide) (by decide) 
  rw [show (3 : Int32).toInt = 3 from rfl] at qz4
  obtain rfl : z4 = (3 : Int32) := iv_sg (k := 3) qz4.2 (by decide)
  refine lv_iadd hx hb dX9_placeOf_14 ?_
  refine lv_topi (fun z5 ez5 => ?_)
  have qz5 := iv_add (lo := 3) (hi := 406) ez5 qz3.2 (iv_k 3 (k := 3) (by decide)) (by decide) (by decide) (by decide) (by decide) 
  rw [show (3 : Int32).toInt = 3 from rfl] at qz5
  refine lv_bipush (v := 15) hx hb dX9_placeOf_15 (by decide) ?_
  refine lv_iand hx hb dX9_placeOf_17 ?_
  refine lv_topi (fun z6 ez6 => ?_)
  have qz6 : 0 ≤ z6.toInt ∧ z6.toInt ≤ 15 := iv_and ez6 (k := 4) (by decide) (by decide) (by decide)
  refine lv_iadd hx hb dX9_placeOf_18 ?_
  refine lv_topi (fun z7 ez7 => ?_)
  have qz7 := iv_add (lo := 16) (hi := 31) ez7 (iv_k 16 (k := 16) (by decide)) qz6 (by decide) (by decide) (by decide) (by decide) 
  rw [show (16 : Int32).toInt = 16 from rfl] at qz7
  subst hQ
  exact W.iret (v := z7) hx hb hr (fun t ht hW => ⟨⟨z7, (), rfl, ⟨iv_m qz7.2 (by decide) (by decide), trivial⟩, by rw [ht]; exact hP⟩, hS.F ht⟩) hS.2.2 dX9_placeOf_19
set_option maxHeartbeats 4000000 in
set_option maxRecDepth 100000 in
theorem kX9_placeOf_3 (l : Launch) (dC : Nat → ClassId) (dI : Nat → Nat → Nat) (cI cZ cC cJ cD : ClassId) (qf : Nat) (sz : Nat) (p1 p2 : Int32) (bp1 : 0 ≤ p1.toInt ∧ p1.toInt ≤ 31) (bp2 : 2 ≤ p2.toInt ∧ p2.toInt ≤ 2) : Met l yX9_placeOf wsX9_placeOf ({ frames := 1, cells := 0, slots := 0, locals := 13 } : Room) (mPre qf [.int p1, .int p2] sz (dC, dI) (mT cI cZ cC cJ cD) []) (mQi (fun (r : Int32) (u : Unit) => (32 ≤ r.toInt ∧ r.toInt ≤ 47) ∧ True) (fun (u : Unit) => []) (dC, dI) (va_A [] sz)) 0 0 (va_A [] sz) := by
  refine mMet (Qc := fun A => mQi (fun (r : Int32) (u : Unit) => (32 ≤ r.toInt ∧ r.toInt ≤ 47) ∧ True) (fun (u : Unit) => []) (dC, dI) A) (own := RX9) (by decide) rfl rfl (Nat.le_of_ble_eq_true rfl) ?_
  intro p e s m args below meth c hx hb hr hts hown hml hlk A hsz hP hK hD hS hA hE ls hl Q hQ
  have hl : lv_has ls 2 [(0, .int p1), (1, .int p2)] := hl
  refine lv_iload_n hx hb dX9_placeOf_0 rfl (lv_at hl 1 rfl) ?_
  refine lv_bipush (v := 16) hx hb dX9_placeOf_1 (by decide) ?_
  refine lv_imul hx hb dX9_placeOf_3 ?_
  refine lv_topi (fun z1 ez1 => ?_)
  have qz1 := iv_mul (lo := 32) (hi := 32) ez1 bp2 (iv_k 16 (k := 16) (by decide)) (by decide) (by decide) (by decide) (by decide) (by decide) (by decide) 
  rw [show (16 : Int32).toInt = 16 from rfl] at qz1
  obtain rfl : z1 = (32 : Int32) := iv_sg (k := 32) qz1.2 (by decide)
  refine lv_iload_n hx hb dX9_placeOf_4 rfl (lv_at hl 0 rfl) ?_
  refine va_getsN hx hb hE.1 hS hown (hE.2.2.2.2.1.use rfl) (fun _ h9 => h9) dX9_placeOf_5 ?_
  refine lv_iload_n hx hb dX9_placeOf_8 rfl (lv_at hl 1 rfl) ?_
  refine va_ti (v := .int (fRF (p2).toNatClampNeg)) hx hb hE.2.1 hS (iv_in bp2 (by decide) (by decide)) rfl dX9_placeOf_9 ?_
  refine lv_topi (fun z2 ez2 => ?_)
  have bz2 : 5 ≤ z2.toInt ∧ z2.toInt ≤ 13 := iv_at rgRF bp2 (by decide) (by decide) ez2
  refine lv_imul hx hb dX9_placeOf_10 ?_
  refine lv_topi (fun z3 ez3 => ?_)
  have qz3 := iv_mul (lo := 0) (hi := 403) ez3 bp1 bz2 (by decide) (by decide) (by decide) (by decide) (by decide) (by decide) 
  refine lv_iconst (v := 3) hx hb dX9_placeOf_11 (by decide) ?_
  refine lv_iload_n hx hb dX9_placeOf_12 rfl (lv_at hl 1 rfl) ?_
  refine lv_imul hx hb dX9_placeOf_13 ?_
  refine lv_topi (fun z4 ez4 => ?_)
  have qz4 := iv_mul (lo := 6) (hi := 6) ez4 (iv_k 3 (k := 3) (by decide)) bp2 (by decide) (by decide) (by decide) (by decide) (by decide) (by decide) 
  rw [show (3 : Int32).toInt = 3 from rfl] at qz4
  obtain rfl : z4 = (6 : Int32) := iv_sg (k := 6) qz4.2 (by decide)
  refine lv_iadd hx hb dX9_placeOf_14 ?_
  refine lv_topi (fun z5 ez5 => ?_)
  have qz5 := iv_add (lo := 6) (hi := 409) ez5 qz3.2 (iv_k 6 (k := 6) (by decide)) (by decide) (by decide) (by decide) (by decide) 
  rw [show (6 : Int32).toInt = 6 from rfl] at qz5
  refine lv_bipush (v := 15) hx hb dX9_placeOf_15 (by decide) ?_
  refine lv_iand hx hb dX9_placeOf_17 ?_
  refine lv_topi (fun z6 ez6 => ?_)
  have qz6 : 0 ≤ z6.toInt ∧ z6.toInt ≤ 15 := iv_and ez6 (k := 4) (by decide) (by decide) (by decide)
  refine lv_iadd hx hb dX9_placeOf_18 ?_
  refine lv_topi (fun z7 ez7 => ?_)
  have qz7 := iv_add (lo := 32) (hi := 47) ez7 (iv_k 32 (k := 32) (by decide)) qz6 (by decide) (by decide) (by decide) (by decide) 
  rw [show (32 : Int32).toInt = 32 from rfl] at qz7
  subst hQ
  exact W.iret (v := z7) hx hb hr (fun t ht hW => ⟨⟨z7, (), rfl, ⟨iv_m qz7.2 (by decide) (by decide), trivial⟩, by rw [ht]; exact hP⟩, hS.F ht⟩) hS.2.2 dX9_placeOf_19
set_option maxHeartbeats 4000000 in
set_option maxRecDepth 100000 in
theorem kX9_placeOf_4 (l : Launch) (dC : Nat → ClassId) (dI : Nat → Nat → Nat) (cI cZ cC cJ cD : ClassId) (qf : Nat) (sz : Nat) (p1 p2 : Int32) (bp1 : 0 ≤ p1.toInt ∧ p1.toInt ≤ 31) (bp2 : 3 ≤ p2.toInt ∧ p2.toInt ≤ 3) : Met l yX9_placeOf wsX9_placeOf ({ frames := 1, cells := 0, slots := 0, locals := 13 } : Room) (mPre qf [.int p1, .int p2] sz (dC, dI) (mT cI cZ cC cJ cD) []) (mQi (fun (r : Int32) (u : Unit) => (48 ≤ r.toInt ∧ r.toInt ≤ 63) ∧ True) (fun (u : Unit) => []) (dC, dI) (va_A [] sz)) 0 0 (va_A [] sz) := by
  refine mMet (Qc := fun A => mQi (fun (r : Int32) (u : Unit) => (48 ≤ r.toInt ∧ r.toInt ≤ 63) ∧ True) (fun (u : Unit) => []) (dC, dI) A) (own := RX9) (by decide) rfl rfl (Nat.le_of_ble_eq_true rfl) ?_
  intro p e s m args below meth c hx hb hr hts hown hml hlk A hsz hP hK hD hS hA hE ls hl Q hQ
  have hl : lv_has ls 2 [(0, .int p1), (1, .int p2)] := hl
  refine lv_iload_n hx hb dX9_placeOf_0 rfl (lv_at hl 1 rfl) ?_
  refine lv_bipush (v := 16) hx hb dX9_placeOf_1 (by decide) ?_
  refine lv_imul hx hb dX9_placeOf_3 ?_
  refine lv_topi (fun z1 ez1 => ?_)
  have qz1 := iv_mul (lo := 48) (hi := 48) ez1 bp2 (iv_k 16 (k := 16) (by decide)) (by decide) (by decide) (by decide) (by decide) (by decide) (by decide) 
  rw [show (16 : Int32).toInt = 16 from rfl] at qz1
  obtain rfl : z1 = (48 : Int32) := iv_sg (k := 48) qz1.2 (by decide)
  refine lv_iload_n hx hb dX9_placeOf_4 rfl (lv_at hl 0 rfl) ?_
  refine va_getsN hx hb hE.1 hS hown (hE.2.2.2.2.1.use rfl) (fun _ h9 => h9) dX9_placeOf_5 ?_
  refine lv_iload_n hx hb dX9_placeOf_8 rfl (lv_at hl 1 rfl) ?_
  refine va_ti (v := .int (fRF (p2).toNatClampNeg)) hx hb hE.2.1 hS (iv_in bp2 (by decide) (by decide)) rfl dX9_placeOf_9 ?_
  refine lv_topi (fun z2 ez2 => ?_)
  have bz2 : 5 ≤ z2.toInt ∧ z2.toInt ≤ 13 := iv_at rgRF bp2 (by decide) (by decide) ez2
  refine lv_imul hx hb dX9_placeOf_10 ?_
  refine lv_topi (fun z3 ez3 => ?_)
  have qz3 := iv_mul (lo := 0) (hi := 403) ez3 bp1 bz2 (by decide) (by decide) (by decide) (by decide) (by decide) (by decide) 
  refine lv_iconst (v := 3) hx hb dX9_placeOf_11 (by decide) ?_
  refine lv_iload_n hx hb dX9_placeOf_12 rfl (lv_at hl 1 rfl) ?_
  refine lv_imul hx hb dX9_placeOf_13 ?_
  refine lv_topi (fun z4 ez4 => ?_)
  have qz4 := iv_mul (lo := 9) (hi := 9) ez4 (iv_k 3 (k := 3) (by decide)) bp2 (by decide) (by decide) (by decide) (by decide) (by decide) (by decide) 
  rw [show (3 : Int32).toInt = 3 from rfl] at qz4
  obtain rfl : z4 = (9 : Int32) := iv_sg (k := 9) qz4.2 (by decide)
  refine lv_iadd hx hb dX9_placeOf_14 ?_
  refine lv_topi (fun z5 ez5 => ?_)
  have qz5 := iv_add (lo := 9) (hi := 412) ez5 qz3.2 (iv_k 9 (k := 9) (by decide)) (by decide) (by decide) (by decide) (by decide) 
  rw [show (9 : Int32).toInt = 9 from rfl] at qz5
  refine lv_bipush (v := 15) hx hb dX9_placeOf_15 (by decide) ?_
  refine lv_iand hx hb dX9_placeOf_17 ?_
  refine lv_topi (fun z6 ez6 => ?_)
  have qz6 : 0 ≤ z6.toInt ∧ z6.toInt ≤ 15 := iv_and ez6 (k := 4) (by decide) (by decide) (by decide)
  refine lv_iadd hx hb dX9_placeOf_18 ?_
  refine lv_topi (fun z7 ez7 => ?_)
  have qz7 := iv_add (lo := 48) (hi := 63) ez7 (iv_k 48 (k := 48) (by decide)) qz6 (by decide) (by decide) (by decide) (by decide) 
  rw [show (48 : Int32).toInt = 48 from rfl] at qz7
  subst hQ
  exact W.iret (v := z7) hx hb hr (fun t ht hW => ⟨⟨z7, (), rfl, ⟨iv_m qz7.2 (by decide) (by decide), trivial⟩, by rw [ht]; exact hP⟩, hS.F ht⟩) hS.2.2 dX9_placeOf_19
set_option maxHeartbeats 4000000 in
set_option maxRecDepth 100000 in
theorem kX9_leastOf_1 (l : Launch) (dC : Nat → ClassId) (dI : Nat → Nat → Nat) (cI cZ cC cJ cD : ClassId) (qf : Nat) (a0 a0_counters : Nat) (sz : Nat) (f_a0_counters : Nat → Int32) (v_a0_counted p1 : Int32) (rf_a0_counters : rg 0 0 64 f_a0_counters) (bv_a0_counted : 0 ≤ v_a0_counted.toInt ∧ v_a0_counted.toInt ≤ 0) (bp1 : 0 ≤ p1.toInt ∧ p1.toInt ≤ 31) : Met l yX9_leastOf wsX9_leastOf ({ frames := 2, cells := 0, slots := 0, locals := 37 } : Room) (mPre qf [.ref a0, .int p1] sz (dC, dI) (mT cI cZ cC cJ cD) [(a0, .inr (9, [.ref a0_counters, .int v_a0_counted])), (a0_counters, .inl (cI, 64, .inl f_a0_counters))]) (mQi (fun (r : Int32) (u : Unit) => (0 ≤ r.toInt ∧ r.toInt ≤ 0) ∧ True) (fun (u : Unit) => [(a0, .inr (9, [.ref a0_counters, .int v_a0_counted])), (a0_counters, .inl (cI, 64, .inl f_a0_counters))]) (dC, dI) (va_A [(a0, .inr (9, [.ref a0_counters, .int v_a0_counted])), (a0_counters, .inl (cI, 64, .inl f_a0_counters))] sz)) 0 0 (va_A [(a0, .inr (9, [.ref a0_counters, .int v_a0_counted])), (a0_counters, .inl (cI, 64, .inl f_a0_counters))] sz) := by
  refine mMet (Qc := fun A => mQi (fun (r : Int32) (u : Unit) => (0 ≤ r.toInt ∧ r.toInt ≤ 0) ∧ True) (fun (u : Unit) => [(a0, .inr (9, [.ref a0_counters, .int v_a0_counted])), (a0_counters, .inl (cI, 64, .inl f_a0_counters))]) (dC, dI) A) (own := RX9) (by decide) rfl rfl (Nat.le_of_ble_eq_true rfl) ?_
  intro p e s m args below meth c hx hb hr hts hown hml hlk A hsz hP hK hD hS hA hE ls hl Q hQ
  have hl : lv_has ls 5 [(0, .ref a0), (1, .int p1)] := hl
  have hinX9 : ∀ w ∈ u_ws RX9 TX9 2, w ∈ wsX9_leastOf := fun w h => List.mem_cons_of_mem _ (List.mem_append_left _ (List.mem_append_right _ h))
  refine lv_bipush (v := 15) hx hb dX9_leastOf_0 (by decide) ?_
  refine lv_istore_n (lv' := [(2, .int 15), (0, .ref a0), (1, .int p1)]) hx hb dX9_leastOf_2 rfl hl (by decide) rfl (fun ls hl => ?_)
  refine lv_iconst (v := 0) hx hb dX9_leastOf_3 (by decide) ?_
  refine lv_istore_n (lv' := [(3, .int 0), (2, .int 15), (0, .ref a0), (1, .int p1)]) hx hb dX9_leastOf_4 rfl hl (by decide) rfl (fun ls hl => ?_)
  refine lv_iload_n hx hb dX9_leastOf_5 rfl (lv_at hl 0 rfl) ?_
  refine lv_iconst (v := 4) hx hb dX9_leastOf_6 (by decide) ?_
  refine lv_icmp_ge (tgt := 41) hx hb dX9_leastOf_7 (by decide) (fun c => (z_le (iv_k 4 (k := 4) (by decide)) (iv_k 0 (k := 0) (by decide)) (c_le c) (by decide)).elim) (fun c1 => ?_)
  have c1 := c_nle c1
  refine lv_aload_n hx hb dX9_leastOf_10 rfl (lv_at hl 2 rfl) ?_
  refine va_get (D := (dC, dI)) (ci := 9) (v := .ref a0_counters) (C := RX9) (T := TX9) (N := 2) hx hb hts hinX9 hown hK hP 0 rfl rfl 0 (by decide) (hts (.fieldLink RX9 9 "SlipstreamCache$Sketch" "counters" "[I") (List.mem_of_getElem? (i := 1) rfl)) (fun _ h9 => h9) rfl dX9_leastOf_11 ?_
  refine lv_iload_n hx hb dX9_leastOf_14 rfl (lv_at hl 3 rfl) ?_
  refine lv_iload_n hx hb dX9_leastOf_15 rfl (lv_at hl 0 rfl) ?_
  refine mSi (As := [.int p1, .int 0]) (rest := [.ref a0_counters]) (wc := []) ⟨hx, hb, hml, hown, hts⟩ (kX9_placeOf_1 l dC dI cI cZ cC cJ cD qf  _ p1 (0 : Int32) (iv_m bp1 (by decide) (by decide)) (iv_m (iv_k 0 (k := 0) (by decide)) (by decide) (by decide))) (va_cwS 2 hts gX9_leastOf_X9_placeOf rfl rfl rfl (by decide +kernel) ⟨(Nat.le_of_ble_eq_true rfl), (Nat.le_of_ble_eq_true rfl)⟩) hE hK hP hD rfl hS hA [] rfl rfl rfl hl rfl (Nat.le_of_ble_eq_true rfl) dX9_leastOf_16 ⟨(Nat.le_of_ble_eq_true rfl), (Nat.le_of_ble_eq_true rfl)⟩ (fun _ => rfl) (fun z2 uu3 H locs hw hP hS => ?_)
  have bz2 : 0 ≤ z2.toInt ∧ z2.toInt ≤ 15 := hw.1
  have hP : va_P (dC, dI) vqCl [(a0, .inr (9, [.ref a0_counters, .int v_a0_counted])), (a0_counters, .inl (cI, 64, .inl f_a0_counters))] H := hP
  refine va_iald hx hb hK hP 1 0 rfl rfl (iv_in bz2 (by decide) (by decide)) dX9_leastOf_19 ?_
  refine lv_topi (fun z4 ez4 => ?_)
  have bz4 : 0 ≤ z4.toInt ∧ z4.toInt ≤ 0 := iv_at rf_a0_counters bz2 (by decide) (by decide) ez4
  refine lv_istore (lv' := [(4, .int z4), (3, .int 0), (2, .int 15), (0, .ref a0), (1, .int p1)]) hx hb dX9_leastOf_20 hl (by decide) rfl (fun ls hl => ?_)
  refine lv_iload hx hb dX9_leastOf_22 (lv_at hl 0 rfl) ?_
  refine lv_iload_n hx hb dX9_leastOf_24 rfl (lv_at hl 2 rfl) ?_
  refine lv_icmp_ge (tgt := 33) hx hb dX9_leastOf_25 (by decide) (fun c => (z_le (iv_k 15 (k := 15) (by decide)) bz4 (c_le c) (by decide)).elim) (fun c5 => ?_)
  have c5 := c_nle c5
  refine lv_iload hx hb dX9_leastOf_28 (lv_at hl 0 rfl) ?_
  refine lv_goto (tgt := 34) hx hb dX9_leastOf_30 (by decide) ?_
  refine lv_istore_n (lv' := [(2, .int z4), (4, .int z4), (3, .int 0), (0, .ref a0), (1, .int p1)]) hx hb dX9_leastOf_34 rfl hl (by decide) rfl (fun ls hl => ?_)
  obtain ⟨z6, ez6⟩ : ∃ y : Int32, y = (0 : Int32) + 1 := ⟨_, rfl⟩
  refine lv_iinc (v := z6) (lv' := [(3, .int z6), (2, .int z4), (4, .int z4), (0, .ref a0), (1, .int p1)]) hx hb dX9_leastOf_35 hl (k := 2) rfl (by rw [ez6]; rfl) (by decide) rfl (fun ls hl => ?_)
  have qz6 := iv_add (lo := 1) (hi := 1) ez6 (iv_k 0 (k := 0) (by decide)) (iv_k 1 (k := 1) (by decide)) (by decide) (by decide) (by decide) (by decide)
  rw [show (1 : Int32).toInt = 1 from rfl] at qz6
  refine lv_goto (tgt := 5) hx hb dX9_leastOf_38 (by decide) ?_
  refine lv_iload_n hx hb dX9_leastOf_5 rfl (lv_at hl 0 rfl) ?_
  refine lv_iconst (v := 4) hx hb dX9_leastOf_6 (by decide) ?_
  refine lv_icmp_ge (tgt := 41) hx hb dX9_leastOf_7 (by decide) (fun c => (z_le (iv_k 4 (k := 4) (by decide)) qz6.2 (c_le c) (by decide)).elim) (fun c7 => ?_)
  have c7 := c_nle c7
  refine lv_aload_n hx hb dX9_leastOf_10 rfl (lv_at hl 3 rfl) ?_
  refine va_get (D := (dC, dI)) (ci := 9) (v := .ref a0_counters) (C := RX9) (T := TX9) (N := 2) hx hb hts hinX9 hown hK hP 0 rfl rfl 0 (by decide) (hts (.fieldLink RX9 9 "SlipstreamCache$Sketch" "counters" "[I") (List.mem_of_getElem? (i := 1) rfl)) (fun _ h9 => h9) rfl dX9_leastOf_11 ?_
  refine lv_iload_n hx hb dX9_leastOf_14 rfl (lv_at hl 4 rfl) ?_
  refine lv_iload_n hx hb dX9_leastOf_15 rfl (lv_at hl 0 rfl) ?_
  refine mSi (As := [.int p1, .int z6]) (rest := [.ref a0_counters]) (wc := []) ⟨hx, hb, hml, hown, hts⟩ (kX9_placeOf_2 l dC dI cI cZ cC cJ cD qf  _ p1 z6 (iv_m bp1 (by decide) (by decide)) (iv_m qz6.2 (by decide) (by decide))) (va_cwS 2 hts gX9_leastOf_X9_placeOf rfl rfl rfl (by decide +kernel) ⟨(Nat.le_of_ble_eq_true rfl), (Nat.le_of_ble_eq_true rfl)⟩) hE hK hP hD rfl hS hA [] rfl rfl rfl hl rfl (Nat.le_of_ble_eq_true rfl) dX9_leastOf_16 ⟨(Nat.le_of_ble_eq_true rfl), (Nat.le_of_ble_eq_true rfl)⟩ (fun _ => rfl) (fun z8 uu9 H locs hw hP hS => ?_)
  have bz8 : 16 ≤ z8.toInt ∧ z8.toInt ≤ 31 := hw.1
  have hP : va_P (dC, dI) vqCl [(a0, .inr (9, [.ref a0_counters, .int v_a0_counted])), (a0_counters, .inl (cI, 64, .inl f_a0_counters))] H := hP
  refine va_iald hx hb hK hP 1 0 rfl rfl (iv_in bz8 (by decide) (by decide)) dX9_leastOf_19 ?_
  refine lv_topi (fun z10 ez10 => ?_)
  have bz10 : 0 ≤ z10.toInt ∧ z10.toInt ≤ 0 := iv_at rf_a0_counters bz8 (by decide) (by decide) ez10
  refine lv_istore (lv' := [(4, .int z10), (3, .int z6), (2, .int z4), (0, .ref a0), (1, .int p1)]) hx hb dX9_leastOf_20 hl (by decide) rfl (fun ls hl => ?_)
  refine lv_iload hx hb dX9_leastOf_22 (lv_at hl 0 rfl) ?_
  refine lv_iload_n hx hb dX9_leastOf_24 rfl (lv_at hl 2 rfl) ?_
  refine lv_icmp_ge (tgt := 33) hx hb dX9_leastOf_25 (by decide) (fun c11 => ?_) (fun c => (z_lt bz10 bz4 (c_nle c) (by decide)).elim)
  have c11 := c_le c11
  refine lv_iload_n hx hb dX9_leastOf_33 rfl (lv_at hl 2 rfl) ?_
  refine lv_istore_n (lv' := [(2, .int z4), (4, .int z10), (3, .int z6), (0, .ref a0), (1, .int p1)]) hx hb dX9_leastOf_34 rfl hl (by decide) rfl (fun ls hl => ?_)
  obtain ⟨z12, ez12⟩ : ∃ y : Int32, y = z6 + 1 := ⟨_, rfl⟩
  refine lv_iinc (v := z12) (lv' := [(3, .int z12), (2, .int z4), (4, .int z10), (0, .ref a0), (1, .int p1)]) hx hb dX9_leastOf_35 hl (k := 2) rfl (by rw [ez12]; rfl) (by decide) rfl (fun ls hl => ?_)
  have qz12 := iv_add (lo := 2) (hi := 2) ez12 qz6.2 (iv_k 1 (k := 1) (by decide)) (by decide) (by decide) (by decide) (by decide)
  rw [show (1 : Int32).toInt = 1 from rfl] at qz12
  refine lv_goto (tgt := 5) hx hb dX9_leastOf_38 (by decide) ?_
  refine lv_iload_n hx hb dX9_leastOf_5 rfl (lv_at hl 0 rfl) ?_
  refine lv_iconst (v := 4) hx hb dX9_leastOf_6 (by decide) ?_
  refine lv_icmp_ge (tgt := 41) hx hb dX9_leastOf_7 (by decide) (fun c => (z_le (iv_k 4 (k := 4) (by decide)) qz12.2 (c_le c) (by decide)).elim) (fun c13 => ?_)
  have c13 := c_nle c13
  refine lv_aload_n hx hb dX9_leastOf_10 rfl (lv_at hl 3 rfl) ?_
  refine va_get (D := (dC, dI)) (ci := 9) (v := .ref a0_counters) (C := RX9) (T := TX9) (N := 2) hx hb hts hinX9 hown hK hP 0 rfl rfl 0 (by decide) (hts (.fieldLink RX9 9 "SlipstreamCache$Sketch" "counters" "[I") (List.mem_of_getElem? (i := 1) rfl)) (fun _ h9 => h9) rfl dX9_leastOf_11 ?_
  refine lv_iload_n hx hb dX9_leastOf_14 rfl (lv_at hl 4 rfl) ?_
  refine lv_iload_n hx hb dX9_leastOf_15 rfl (lv_at hl 0 rfl) ?_
  refine mSi (As := [.int p1, .int z12]) (rest := [.ref a0_counters]) (wc := []) ⟨hx, hb, hml, hown, hts⟩ (kX9_placeOf_3 l dC dI cI cZ cC cJ cD qf  _ p1 z12 (iv_m bp1 (by decide) (by decide)) (iv_m qz12.2 (by decide) (by decide))) (va_cwS 2 hts gX9_leastOf_X9_placeOf rfl rfl rfl (by decide +kernel) ⟨(Nat.le_of_ble_eq_true rfl), (Nat.le_of_ble_eq_true rfl)⟩) hE hK hP hD rfl hS hA [] rfl rfl rfl hl rfl (Nat.le_of_ble_eq_true rfl) dX9_leastOf_16 ⟨(Nat.le_of_ble_eq_true rfl), (Nat.le_of_ble_eq_true rfl)⟩ (fun _ => rfl) (fun z14 uu15 H locs hw hP hS => ?_)
  have bz14 : 32 ≤ z14.toInt ∧ z14.toInt ≤ 47 := hw.1
  have hP : va_P (dC, dI) vqCl [(a0, .inr (9, [.ref a0_counters, .int v_a0_counted])), (a0_counters, .inl (cI, 64, .inl f_a0_counters))] H := hP
  refine va_iald hx hb hK hP 1 0 rfl rfl (iv_in bz14 (by decide) (by decide)) dX9_leastOf_19 ?_
  refine lv_topi (fun z16 ez16 => ?_)
  have bz16 : 0 ≤ z16.toInt ∧ z16.toInt ≤ 0 := iv_at rf_a0_counters bz14 (by decide) (by decide) ez16
  refine lv_istore (lv' := [(4, .int z16), (3, .int z12), (2, .int z4), (0, .ref a0), (1, .int p1)]) hx hb dX9_leastOf_20 hl (by decide) rfl (fun ls hl => ?_)
  refine lv_iload hx hb dX9_leastOf_22 (lv_at hl 0 rfl) ?_
  refine lv_iload_n hx hb dX9_leastOf_24 rfl (lv_at hl 2 rfl) ?_
  refine lv_icmp_ge (tgt := 33) hx hb dX9_leastOf_25 (by decide) (fun c17 => ?_) (fun c => (z_lt bz16 bz4 (c_nle c) (by decide)).elim)
  have c17 := c_le c17
  refine lv_iload_n hx hb dX9_leastOf_33 rfl (lv_at hl 2 rfl) ?_
  refine lv_istore_n (lv' := [(2, .int z4), (4, .int z16), (3, .int z12), (0, .ref a0), (1, .int p1)]) hx hb dX9_leastOf_34 rfl hl (by decide) rfl (fun ls hl => ?_)
  obtain ⟨z18, ez18⟩ : ∃ y : Int32, y = z12 + 1 := ⟨_, rfl⟩
  refine lv_iinc (v := z18) (lv' := [(3, .int z18), (2, .int z4), (4, .int z16), (0, .ref a0), (1, .int p1)]) hx hb dX9_leastOf_35 hl (k := 2) rfl (by rw [ez18]; rfl) (by decide) rfl (fun ls hl => ?_)
  have qz18 := iv_add (lo := 3) (hi := 3) ez18 qz12.2 (iv_k 1 (k := 1) (by decide)) (by decide) (by decide) (by decide) (by decide)
  rw [show (1 : Int32).toInt = 1 from rfl] at qz18
  refine lv_goto (tgt := 5) hx hb dX9_leastOf_38 (by decide) ?_
  refine lv_iload_n hx hb dX9_leastOf_5 rfl (lv_at hl 0 rfl) ?_
  refine lv_iconst (v := 4) hx hb dX9_leastOf_6 (by decide) ?_
  refine lv_icmp_ge (tgt := 41) hx hb dX9_leastOf_7 (by decide) (fun c => (z_le (iv_k 4 (k := 4) (by decide)) qz18.2 (c_le c) (by decide)).elim) (fun c19 => ?_)
  have c19 := c_nle c19
  refine lv_aload_n hx hb dX9_leastOf_10 rfl (lv_at hl 3 rfl) ?_
  refine va_get (D := (dC, dI)) (ci := 9) (v := .ref a0_counters) (C := RX9) (T := TX9) (N := 2) hx hb hts hinX9 hown hK hP 0 rfl rfl 0 (by decide) (hts (.fieldLink RX9 9 "SlipstreamCache$Sketch" "counters" "[I") (List.mem_of_getElem? (i := 1) rfl)) (fun _ h9 => h9) rfl dX9_leastOf_11 ?_
  refine lv_iload_n hx hb dX9_leastOf_14 rfl (lv_at hl 4 rfl) ?_
  refine lv_iload_n hx hb dX9_leastOf_15 rfl (lv_at hl 0 rfl) ?_
  refine mSi (As := [.int p1, .int z18]) (rest := [.ref a0_counters]) (wc := []) ⟨hx, hb, hml, hown, hts⟩ (kX9_placeOf_4 l dC dI cI cZ cC cJ cD qf  _ p1 z18 (iv_m bp1 (by decide) (by decide)) (iv_m qz18.2 (by decide) (by decide))) (va_cwS 2 hts gX9_leastOf_X9_placeOf rfl rfl rfl (by decide +kernel) ⟨(Nat.le_of_ble_eq_true rfl), (Nat.le_of_ble_eq_true rfl)⟩) hE hK hP hD rfl hS hA [] rfl rfl rfl hl rfl (Nat.le_of_ble_eq_true rfl) dX9_leastOf_16 ⟨(Nat.le_of_ble_eq_true rfl), (Nat.le_of_ble_eq_true rfl)⟩ (fun _ => rfl) (fun z20 uu21 H locs hw hP hS => ?_)
  have bz20 : 48 ≤ z20.toInt ∧ z20.toInt ≤ 63 := hw.1
  have hP : va_P (dC, dI) vqCl [(a0, .inr (9, [.ref a0_counters, .int v_a0_counted])), (a0_counters, .inl (cI, 64, .inl f_a0_counters))] H := hP
  refine va_iald hx hb hK hP 1 0 rfl rfl (iv_in bz20 (by decide) (by decide)) dX9_leastOf_19 ?_
  refine lv_topi (fun z22 ez22 => ?_)
  have bz22 : 0 ≤ z22.toInt ∧ z22.toInt ≤ 0 := iv_at rf_a0_counters bz20 (by decide) (by decide) ez22
  refine lv_istore (lv' := [(4, .int z22), (3, .int z18), (2, .int z4), (0, .ref a0), (1, .int p1)]) hx hb dX9_leastOf_20 hl (by decide) rfl (fun ls hl => ?_)
  refine lv_iload hx hb dX9_leastOf_22 (lv_at hl 0 rfl) ?_
  refine lv_iload_n hx hb dX9_leastOf_24 rfl (lv_at hl 2 rfl) ?_
  refine lv_icmp_ge (tgt := 33) hx hb dX9_leastOf_25 (by decide) (fun c23 => ?_) (fun c => (z_lt bz22 bz4 (c_nle c) (by decide)).elim)
  have c23 := c_le c23
  refine lv_iload_n hx hb dX9_leastOf_33 rfl (lv_at hl 2 rfl) ?_
  refine lv_istore_n (lv' := [(2, .int z4), (4, .int z22), (3, .int z18), (0, .ref a0), (1, .int p1)]) hx hb dX9_leastOf_34 rfl hl (by decide) rfl (fun ls hl => ?_)
  obtain ⟨z24, ez24⟩ : ∃ y : Int32, y = z18 + 1 := ⟨_, rfl⟩
  refine lv_iinc (v := z24) (lv' := [(3, .int z24), (2, .int z4), (4, .int z22), (0, .ref a0), (1, .int p1)]) hx hb dX9_leastOf_35 hl (k := 2) rfl (by rw [ez24]; rfl) (by decide) rfl (fun ls hl => ?_)
  have qz24 := iv_add (lo := 4) (hi := 4) ez24 qz18.2 (iv_k 1 (k := 1) (by decide)) (by decide) (by decide) (by decide) (by decide)
  rw [show (1 : Int32).toInt = 1 from rfl] at qz24
  refine lv_goto (tgt := 5) hx hb dX9_leastOf_38 (by decide) ?_
  refine lv_iload_n hx hb dX9_leastOf_5 rfl (lv_at hl 0 rfl) ?_
  refine lv_iconst (v := 4) hx hb dX9_leastOf_6 (by decide) ?_
  refine lv_icmp_ge (tgt := 41) hx hb dX9_leastOf_7 (by decide) (fun c25 => ?_) (fun c => (z_lt qz24.2 (iv_k 4 (k := 4) (by decide)) (c_nle c) (by decide)).elim)
  have c25 := c_le c25
  refine lv_iload_n hx hb dX9_leastOf_41 rfl (lv_at hl 1 rfl) ?_
  subst hQ
  exact W.iret (v := z4) hx hb hr (fun t ht hW => ⟨⟨z4, (), rfl, ⟨iv_m bz4 (by decide) (by decide), trivial⟩, by rw [ht]; exact hP⟩, hS.F ht⟩) hS.2.2 dX9_leastOf_42
set_option maxHeartbeats 4000000 in
set_option maxRecDepth 100000 in
theorem kX9_placeOf_7 (l : Launch) (dC : Nat → ClassId) (dI : Nat → Nat → Nat) (cI cZ cC cJ cD : ClassId) (qf : Nat) (sz : Nat) (p1 p2 : Int32) (bp1 : 0 ≤ p1.toInt ∧ p1.toInt ≤ 31) (bp2 : 0 ≤ p2.toInt ∧ p2.toInt ≤ 3) : Met l yX9_placeOf wsX9_placeOf ({ frames := 1, cells := 0, slots := 0, locals := 13 } : Room) (mPre qf [.int p1, .int p2] sz (dC, dI) (mT cI cZ cC cJ cD) []) (mQi (fun (r : Int32) (u : Unit) => (0 ≤ r.toInt ∧ r.toInt ≤ 63) ∧ True) (fun (u : Unit) => []) (dC, dI) (va_A [] sz)) 0 0 (va_A [] sz) := by
  refine mMet (Qc := fun A => mQi (fun (r : Int32) (u : Unit) => (0 ≤ r.toInt ∧ r.toInt ≤ 63) ∧ True) (fun (u : Unit) => []) (dC, dI) A) (own := RX9) (by decide) rfl rfl (Nat.le_of_ble_eq_true rfl) ?_
  intro p e s m args below meth c hx hb hr hts hown hml hlk A hsz hP hK hD hS hA hE ls hl Q hQ
  have hl : lv_has ls 2 [(0, .int p1), (1, .int p2)] := hl
  refine lv_iload_n hx hb dX9_placeOf_0 rfl (lv_at hl 1 rfl) ?_
  refine lv_bipush (v := 16) hx hb dX9_placeOf_1 (by decide) ?_
  refine lv_imul hx hb dX9_placeOf_3 ?_
  refine lv_topi (fun z1 ez1 => ?_)
  have qz1 := iv_mul (lo := 0) (hi := 48) ez1 bp2 (iv_k 16 (k := 16) (by decide)) (by decide) (by decide) (by decide) (by decide) (by decide) (by decide) 
  rw [show (16 : Int32).toInt = 16 from rfl] at qz1
  refine lv_iload_n hx hb dX9_placeOf_4 rfl (lv_at hl 0 rfl) ?_
  refine va_getsN hx hb hE.1 hS hown (hE.2.2.2.2.1.use rfl) (fun _ h9 => h9) dX9_placeOf_5 ?_
  refine lv_iload_n hx hb dX9_placeOf_8 rfl (lv_at hl 1 rfl) ?_
  refine va_ti (v := .int (fRF (p2).toNatClampNeg)) hx hb hE.2.1 hS (iv_in bp2 (by decide) (by decide)) rfl dX9_placeOf_9 ?_
  refine lv_topi (fun z2 ez2 => ?_)
  have bz2 : 5 ≤ z2.toInt ∧ z2.toInt ≤ 13 := iv_at rgRF bp2 (by decide) (by decide) ez2
  refine lv_imul hx hb dX9_placeOf_10 ?_
  refine lv_topi (fun z3 ez3 => ?_)
  have qz3 := iv_mul (lo := 0) (hi := 403) ez3 bp1 bz2 (by decide) (by decide) (by decide) (by decide) (by decide) (by decide) 
  refine lv_iconst (v := 3) hx hb dX9_placeOf_11 (by decide) ?_
  refine lv_iload_n hx hb dX9_placeOf_12 rfl (lv_at hl 1 rfl) ?_
  refine lv_imul hx hb dX9_placeOf_13 ?_
  refine lv_topi (fun z4 ez4 => ?_)
  have qz4 := iv_mul (lo := 0) (hi := 9) ez4 (iv_k 3 (k := 3) (by decide)) bp2 (by decide) (by decide) (by decide) (by decide) (by decide) (by decide) 
  rw [show (3 : Int32).toInt = 3 from rfl] at qz4
  refine lv_iadd hx hb dX9_placeOf_14 ?_
  refine lv_topi (fun z5 ez5 => ?_)
  have qz5 := iv_add (lo := 0) (hi := 412) ez5 qz3.2 qz4.2 (by decide) (by decide) (by decide) (by decide) 
  refine lv_bipush (v := 15) hx hb dX9_placeOf_15 (by decide) ?_
  refine lv_iand hx hb dX9_placeOf_17 ?_
  refine lv_topi (fun z6 ez6 => ?_)
  have qz6 : 0 ≤ z6.toInt ∧ z6.toInt ≤ 15 := iv_and ez6 (k := 4) (by decide) (by decide) (by decide)
  refine lv_iadd hx hb dX9_placeOf_18 ?_
  refine lv_topi (fun z7 ez7 => ?_)
  have qz7 := iv_add (lo := 0) (hi := 63) ez7 qz1.2 qz6 (by decide) (by decide) (by decide) (by decide) 
  subst hQ
  exact W.iret (v := z7) hx hb hr (fun t ht hW => ⟨⟨z7, (), rfl, ⟨iv_m qz7.2 (by decide) (by decide), trivial⟩, by rw [ht]; exact hP⟩, hS.F ht⟩) hS.2.2 dX9_placeOf_19
set_option maxHeartbeats 4000000 in
set_option maxRecDepth 100000 in
theorem kX12_place_1 (l : Launch) (dC : Nat → ClassId) (dI : Nat → Nat → Nat) (cI cZ cC cJ cD : ClassId) (qf : Nat) (sz : Nat) (p1 p2 : Int32) (bp1 : 0 ≤ p1.toInt ∧ p1.toInt ≤ 31) (bp2 : 0 ≤ p2.toInt ∧ p2.toInt ≤ 0) : Met l yX12_place wsX12_place ({ frames := 1, cells := 0, slots := 0, locals := 14 } : Room) (mPre qf [.int p1, .int p2] sz (dC, dI) (mT cI cZ cC cJ cD) []) (mQi (fun (r : Int32) (u : Unit) => (0 ≤ r.toInt ∧ r.toInt ≤ 15) ∧ True) (fun (u : Unit) => []) (dC, dI) (va_A [] sz)) 0 0 (va_A [] sz) := by
  refine mMet (Qc := fun A => mQi (fun (r : Int32) (u : Unit) => (0 ≤ r.toInt ∧ r.toInt ≤ 15) ∧ True) (fun (u : Unit) => []) (dC, dI) A) (own := RX12) (by decide) rfl rfl (Nat.le_of_ble_eq_true rfl) ?_
  intro p e s m args below meth c hx hb hr hts hown hml hlk A hsz hP hK hD hS hA hE ls hl Q hQ
  have hl : lv_has ls 3 [(0, .int p1), (1, .int p2)] := hl
  refine lv_iload_n hx hb dX12_place_0 rfl (lv_at hl 1 rfl) ?_
  refine lv_if_ne (tgt := 8) hx hb dX12_place_1 (by decide) (fun c => (z_ne bp2 (iv_k 0 (k := 0) (by decide)) (c_ne c) (by decide)).elim) (fun c1 => ?_)
  have c1 := c_eq c1
  refine lv_iconst (v := 5) hx hb dX12_place_4 (by decide) ?_
  refine lv_goto (tgt := 30) hx hb dX12_place_5 (by decide) ?_
  refine lv_istore_n (lv' := [(2, .int 5), (0, .int p1), (1, .int p2)]) hx hb dX12_place_30 rfl hl (by decide) rfl (fun ls hl => ?_)
  refine lv_bipush (v := 16) hx hb dX12_place_31 (by decide) ?_
  refine lv_iload_n hx hb dX12_place_33 rfl (lv_at hl 2 rfl) ?_
  refine lv_imul hx hb dX12_place_34 ?_
  refine lv_topi (fun z2 ez2 => ?_)
  have qz2 := iv_mul (lo := 0) (hi := 0) ez2 (iv_k 16 (k := 16) (by decide)) bp2 (by decide) (by decide) (by decide) (by decide) (by decide) (by decide) 
  rw [show (16 : Int32).toInt = 16 from rfl] at qz2
  obtain rfl : z2 = (0 : Int32) := iv_sg (k := 0) qz2.2 (by decide)
  refine lv_iload_n hx hb dX12_place_35 rfl (lv_at hl 1 rfl) ?_
  refine lv_iload_n hx hb dX12_place_36 rfl (lv_at hl 0 rfl) ?_
  refine lv_imul hx hb dX12_place_37 ?_
  refine lv_topi (fun z3 ez3 => ?_)
  have qz3 := iv_mul (lo := 0) (hi := 155) ez3 bp1 (iv_k 5 (k := 5) (by decide)) (by decide) (by decide) (by decide) (by decide) (by decide) (by decide) 
  rw [show (5 : Int32).toInt = 5 from rfl] at qz3
  refine lv_iconst (v := 3) hx hb dX12_place_38 (by decide) ?_
  refine lv_iload_n hx hb dX12_place_39 rfl (lv_at hl 2 rfl) ?_
  refine lv_imul hx hb dX12_place_40 ?_
  refine lv_topi (fun z4 ez4 => ?_)
  have qz4 := iv_mul (lo := 0) (hi := 0) ez4 (iv_k 3 (k := 3) (by decide)) bp2 (by decide) (by decide) (by decide) (by decide) (by decide) (by decide) 
  rw [show (3 : Int32).toInt = 3 from rfl] at qz4
  obtain rfl : z4 = (0 : Int32) := iv_sg (k := 0) qz4.2 (by decide)
  refine lv_iadd hx hb dX12_place_41 ?_
  refine lv_topi (fun z5 ez5 => ?_)
  have qz5 := iv_add (lo := 0) (hi := 155) ez5 qz3.2 (iv_k 0 (k := 0) (by decide)) (by decide) (by decide) (by decide) (by decide) 
  rw [show (0 : Int32).toInt = 0 from rfl] at qz5
  refine lv_bipush (v := 15) hx hb dX12_place_42 (by decide) ?_
  refine lv_iand hx hb dX12_place_44 ?_
  refine lv_topi (fun z6 ez6 => ?_)
  have qz6 : 0 ≤ z6.toInt ∧ z6.toInt ≤ 15 := iv_and ez6 (k := 4) (by decide) (by decide) (by decide)
  refine lv_iadd hx hb dX12_place_45 ?_
  refine lv_topi (fun z7 ez7 => ?_)
  have qz7 := iv_add (lo := 0) (hi := 15) ez7 (iv_k 0 (k := 0) (by decide)) qz6 (by decide) (by decide) (by decide) (by decide) 
  rw [show (0 : Int32).toInt = 0 from rfl] at qz7
  subst hQ
  exact W.iret (v := z7) hx hb hr (fun t ht hW => ⟨⟨z7, (), rfl, ⟨iv_m qz7.2 (by decide) (by decide), trivial⟩, by rw [ht]; exact hP⟩, hS.F ht⟩) hS.2.2 dX12_place_46
set_option maxHeartbeats 4000000 in
set_option maxRecDepth 100000 in
theorem kX12_place_2 (l : Launch) (dC : Nat → ClassId) (dI : Nat → Nat → Nat) (cI cZ cC cJ cD : ClassId) (qf : Nat) (sz : Nat) (p1 p2 : Int32) (bp1 : 0 ≤ p1.toInt ∧ p1.toInt ≤ 31) (bp2 : 1 ≤ p2.toInt ∧ p2.toInt ≤ 1) : Met l yX12_place wsX12_place ({ frames := 1, cells := 0, slots := 0, locals := 14 } : Room) (mPre qf [.int p1, .int p2] sz (dC, dI) (mT cI cZ cC cJ cD) []) (mQi (fun (r : Int32) (u : Unit) => (16 ≤ r.toInt ∧ r.toInt ≤ 31) ∧ True) (fun (u : Unit) => []) (dC, dI) (va_A [] sz)) 0 0 (va_A [] sz) := by
  refine mMet (Qc := fun A => mQi (fun (r : Int32) (u : Unit) => (16 ≤ r.toInt ∧ r.toInt ≤ 31) ∧ True) (fun (u : Unit) => []) (dC, dI) A) (own := RX12) (by decide) rfl rfl (Nat.le_of_ble_eq_true rfl) ?_
  intro p e s m args below meth c hx hb hr hts hown hml hlk A hsz hP hK hD hS hA hE ls hl Q hQ
  have hl : lv_has ls 3 [(0, .int p1), (1, .int p2)] := hl
  refine lv_iload_n hx hb dX12_place_0 rfl (lv_at hl 1 rfl) ?_
  refine lv_if_ne (tgt := 8) hx hb dX12_place_1 (by decide) (fun c1 => ?_) (fun c => (z_eq bp2 (iv_k 0 (k := 0) (by decide)) (c_eq c) (by decide)).elim)
  have c1 := c_ne c1
  refine lv_iload_n hx hb dX12_place_8 rfl (lv_at hl 1 rfl) ?_
  refine lv_iconst (v := 1) hx hb dX12_place_9 (by decide) ?_
  refine lv_icmp_ne (tgt := 18) hx hb dX12_place_10 (by decide) (fun c => (z_ne bp2 (iv_k 1 (k := 1) (by decide)) (c_ne c) (by decide)).elim) (fun c2 => ?_)
  have c2 := c_eq c2
  refine lv_bipush (v := 7) hx hb dX12_place_13 (by decide) ?_
  refine lv_goto (tgt := 30) hx hb dX12_place_15 (by decide) ?_
  refine lv_istore_n (lv' := [(2, .int 7), (0, .int p1), (1, .int p2)]) hx hb dX12_place_30 rfl hl (by decide) rfl (fun ls hl => ?_)
  refine lv_bipush (v := 16) hx hb dX12_place_31 (by decide) ?_
  refine lv_iload_n hx hb dX12_place_33 rfl (lv_at hl 2 rfl) ?_
  refine lv_imul hx hb dX12_place_34 ?_
  refine lv_topi (fun z3 ez3 => ?_)
  have qz3 := iv_mul (lo := 16) (hi := 16) ez3 (iv_k 16 (k := 16) (by decide)) bp2 (by decide) (by decide) (by decide) (by decide) (by decide) (by decide) 
  rw [show (16 : Int32).toInt = 16 from rfl] at qz3
  obtain rfl : z3 = (16 : Int32) := iv_sg (k := 16) qz3.2 (by decide)
  refine lv_iload_n hx hb dX12_place_35 rfl (lv_at hl 1 rfl) ?_
  refine lv_iload_n hx hb dX12_place_36 rfl (lv_at hl 0 rfl) ?_
  refine lv_imul hx hb dX12_place_37 ?_
  refine lv_topi (fun z4 ez4 => ?_)
  have qz4 := iv_mul (lo := 0) (hi := 217) ez4 bp1 (iv_k 7 (k := 7) (by decide)) (by decide) (by decide) (by decide) (by decide) (by decide) (by decide) 
  rw [show (7 : Int32).toInt = 7 from rfl] at qz4
  refine lv_iconst (v := 3) hx hb dX12_place_38 (by decide) ?_
  refine lv_iload_n hx hb dX12_place_39 rfl (lv_at hl 2 rfl) ?_
  refine lv_imul hx hb dX12_place_40 ?_
  refine lv_topi (fun z5 ez5 => ?_)
  have qz5 := iv_mul (lo := 3) (hi := 3) ez5 (iv_k 3 (k := 3) (by decide)) bp2 (by decide) (by decide) (by decide) (by decide) (by decide) (by decide) 
  rw [show (3 : Int32).toInt = 3 from rfl] at qz5
  obtain rfl : z5 = (3 : Int32) := iv_sg (k := 3) qz5.2 (by decide)
  refine lv_iadd hx hb dX12_place_41 ?_
  refine lv_topi (fun z6 ez6 => ?_)
  have qz6 := iv_add (lo := 3) (hi := 220) ez6 qz4.2 (iv_k 3 (k := 3) (by decide)) (by decide) (by decide) (by decide) (by decide) 
  rw [show (3 : Int32).toInt = 3 from rfl] at qz6
  refine lv_bipush (v := 15) hx hb dX12_place_42 (by decide) ?_
  refine lv_iand hx hb dX12_place_44 ?_
  refine lv_topi (fun z7 ez7 => ?_)
  have qz7 : 0 ≤ z7.toInt ∧ z7.toInt ≤ 15 := iv_and ez7 (k := 4) (by decide) (by decide) (by decide)
  refine lv_iadd hx hb dX12_place_45 ?_
  refine lv_topi (fun z8 ez8 => ?_)
  have qz8 := iv_add (lo := 16) (hi := 31) ez8 (iv_k 16 (k := 16) (by decide)) qz7 (by decide) (by decide) (by decide) (by decide) 
  rw [show (16 : Int32).toInt = 16 from rfl] at qz8
  subst hQ
  exact W.iret (v := z8) hx hb hr (fun t ht hW => ⟨⟨z8, (), rfl, ⟨iv_m qz8.2 (by decide) (by decide), trivial⟩, by rw [ht]; exact hP⟩, hS.F ht⟩) hS.2.2 dX12_place_46
set_option maxHeartbeats 4000000 in
set_option maxRecDepth 100000 in
theorem kX12_place_3 (l : Launch) (dC : Nat → ClassId) (dI : Nat → Nat → Nat) (cI cZ cC cJ cD : ClassId) (qf : Nat) (sz : Nat) (p1 p2 : Int32) (bp1 : 0 ≤ p1.toInt ∧ p1.toInt ≤ 31) (bp2 : 2 ≤ p2.toInt ∧ p2.toInt ≤ 2) : Met l yX12_place wsX12_place ({ frames := 1, cells := 0, slots := 0, locals := 14 } : Room) (mPre qf [.int p1, .int p2] sz (dC, dI) (mT cI cZ cC cJ cD) []) (mQi (fun (r : Int32) (u : Unit) => (32 ≤ r.toInt ∧ r.toInt ≤ 47) ∧ True) (fun (u : Unit) => []) (dC, dI) (va_A [] sz)) 0 0 (va_A [] sz) := by
  refine mMet (Qc := fun A => mQi (fun (r : Int32) (u : Unit) => (32 ≤ r.toInt ∧ r.toInt ≤ 47) ∧ True) (fun (u : Unit) => []) (dC, dI) A) (own := RX12) (by decide) rfl rfl (Nat.le_of_ble_eq_true rfl) ?_
  intro p e s m args below meth c hx hb hr hts hown hml hlk A hsz hP hK hD hS hA hE ls hl Q hQ
  have hl : lv_has ls 3 [(0, .int p1), (1, .int p2)] := hl
  refine lv_iload_n hx hb dX12_place_0 rfl (lv_at hl 1 rfl) ?_
  refine lv_if_ne (tgt := 8) hx hb dX12_place_1 (by decide) (fun c1 => ?_) (fun c => (z_eq bp2 (iv_k 0 (k := 0) (by decide)) (c_eq c) (by decide)).elim)
  have c1 := c_ne c1
  refine lv_iload_n hx hb dX12_place_8 rfl (lv_at hl 1 rfl) ?_
  refine lv_iconst (v := 1) hx hb dX12_place_9 (by decide) ?_
  refine lv_icmp_ne (tgt := 18) hx hb dX12_place_10 (by decide) (fun c2 => ?_) (fun c => (z_eq bp2 (iv_k 1 (k := 1) (by decide)) (c_eq c) (by decide)).elim)
  have c2 := c_ne c2
  refine lv_iload_n hx hb dX12_place_18 rfl (lv_at hl 1 rfl) ?_
  refine lv_iconst (v := 2) hx hb dX12_place_19 (by decide) ?_
  refine lv_icmp_ne (tgt := 28) hx hb dX12_place_20 (by decide) (fun c => (z_ne bp2 (iv_k 2 (k := 2) (by decide)) (c_ne c) (by decide)).elim) (fun c3 => ?_)
  have c3 := c_eq c3
  refine lv_bipush (v := 11) hx hb dX12_place_23 (by decide) ?_
  refine lv_goto (tgt := 30) hx hb dX12_place_25 (by decide) ?_
  refine lv_istore_n (lv' := [(2, .int 11), (0, .int p1), (1, .int p2)]) hx hb dX12_place_30 rfl hl (by decide) rfl (fun ls hl => ?_)
  refine lv_bipush (v := 16) hx hb dX12_place_31 (by decide) ?_
  refine lv_iload_n hx hb dX12_place_33 rfl (lv_at hl 2 rfl) ?_
  refine lv_imul hx hb dX12_place_34 ?_
  refine lv_topi (fun z4 ez4 => ?_)
  have qz4 := iv_mul (lo := 32) (hi := 32) ez4 (iv_k 16 (k := 16) (by decide)) bp2 (by decide) (by decide) (by decide) (by decide) (by decide) (by decide) 
  rw [show (16 : Int32).toInt = 16 from rfl] at qz4
  obtain rfl : z4 = (32 : Int32) := iv_sg (k := 32) qz4.2 (by decide)
  refine lv_iload_n hx hb dX12_place_35 rfl (lv_at hl 1 rfl) ?_
  refine lv_iload_n hx hb dX12_place_36 rfl (lv_at hl 0 rfl) ?_
  refine lv_imul hx hb dX12_place_37 ?_
  refine lv_topi (fun z5 ez5 => ?_)
  have qz5 := iv_mul (lo := 0) (hi := 341) ez5 bp1 (iv_k 11 (k := 11) (by decide)) (by decide) (by decide) (by decide) (by decide) (by decide) (by decide) 
  rw [show (11 : Int32).toInt = 11 from rfl] at qz5
  refine lv_iconst (v := 3) hx hb dX12_place_38 (by decide) ?_
  refine lv_iload_n hx hb dX12_place_39 rfl (lv_at hl 2 rfl) ?_
  refine lv_imul hx hb dX12_place_40 ?_
  refine lv_topi (fun z6 ez6 => ?_)
  have qz6 := iv_mul (lo := 6) (hi := 6) ez6 (iv_k 3 (k := 3) (by decide)) bp2 (by decide) (by decide) (by decide) (by decide) (by decide) (by decide) 
  rw [show (3 : Int32).toInt = 3 from rfl] at qz6
  obtain rfl : z6 = (6 : Int32) := iv_sg (k := 6) qz6.2 (by decide)
  refine lv_iadd hx hb dX12_place_41 ?_
  refine lv_topi (fun z7 ez7 => ?_)
  have qz7 := iv_add (lo := 6) (hi := 347) ez7 qz5.2 (iv_k 6 (k := 6) (by decide)) (by decide) (by decide) (by decide) (by decide) 
  rw [show (6 : Int32).toInt = 6 from rfl] at qz7
  refine lv_bipush (v := 15) hx hb dX12_place_42 (by decide) ?_
  refine lv_iand hx hb dX12_place_44 ?_
  refine lv_topi (fun z8 ez8 => ?_)
  have qz8 : 0 ≤ z8.toInt ∧ z8.toInt ≤ 15 := iv_and ez8 (k := 4) (by decide) (by decide) (by decide)
  refine lv_iadd hx hb dX12_place_45 ?_
  refine lv_topi (fun z9 ez9 => ?_)
  have qz9 := iv_add (lo := 32) (hi := 47) ez9 (iv_k 32 (k := 32) (by decide)) qz8 (by decide) (by decide) (by decide) (by decide) 
  rw [show (32 : Int32).toInt = 32 from rfl] at qz9
  subst hQ
  exact W.iret (v := z9) hx hb hr (fun t ht hW => ⟨⟨z9, (), rfl, ⟨iv_m qz9.2 (by decide) (by decide), trivial⟩, by rw [ht]; exact hP⟩, hS.F ht⟩) hS.2.2 dX12_place_46
set_option maxHeartbeats 4000000 in
set_option maxRecDepth 100000 in
theorem kX12_place_4 (l : Launch) (dC : Nat → ClassId) (dI : Nat → Nat → Nat) (cI cZ cC cJ cD : ClassId) (qf : Nat) (sz : Nat) (p1 p2 : Int32) (bp1 : 0 ≤ p1.toInt ∧ p1.toInt ≤ 31) (bp2 : 3 ≤ p2.toInt ∧ p2.toInt ≤ 3) : Met l yX12_place wsX12_place ({ frames := 1, cells := 0, slots := 0, locals := 14 } : Room) (mPre qf [.int p1, .int p2] sz (dC, dI) (mT cI cZ cC cJ cD) []) (mQi (fun (r : Int32) (u : Unit) => (48 ≤ r.toInt ∧ r.toInt ≤ 63) ∧ True) (fun (u : Unit) => []) (dC, dI) (va_A [] sz)) 0 0 (va_A [] sz) := by
  refine mMet (Qc := fun A => mQi (fun (r : Int32) (u : Unit) => (48 ≤ r.toInt ∧ r.toInt ≤ 63) ∧ True) (fun (u : Unit) => []) (dC, dI) A) (own := RX12) (by decide) rfl rfl (Nat.le_of_ble_eq_true rfl) ?_
  intro p e s m args below meth c hx hb hr hts hown hml hlk A hsz hP hK hD hS hA hE ls hl Q hQ
  have hl : lv_has ls 3 [(0, .int p1), (1, .int p2)] := hl
  refine lv_iload_n hx hb dX12_place_0 rfl (lv_at hl 1 rfl) ?_
  refine lv_if_ne (tgt := 8) hx hb dX12_place_1 (by decide) (fun c1 => ?_) (fun c => (z_eq bp2 (iv_k 0 (k := 0) (by decide)) (c_eq c) (by decide)).elim)
  have c1 := c_ne c1
  refine lv_iload_n hx hb dX12_place_8 rfl (lv_at hl 1 rfl) ?_
  refine lv_iconst (v := 1) hx hb dX12_place_9 (by decide) ?_
  refine lv_icmp_ne (tgt := 18) hx hb dX12_place_10 (by decide) (fun c2 => ?_) (fun c => (z_eq bp2 (iv_k 1 (k := 1) (by decide)) (c_eq c) (by decide)).elim)
  have c2 := c_ne c2
  refine lv_iload_n hx hb dX12_place_18 rfl (lv_at hl 1 rfl) ?_
  refine lv_iconst (v := 2) hx hb dX12_place_19 (by decide) ?_
  refine lv_icmp_ne (tgt := 28) hx hb dX12_place_20 (by decide) (fun c3 => ?_) (fun c => (z_eq bp2 (iv_k 2 (k := 2) (by decide)) (c_eq c) (by decide)).elim)
  have c3 := c_ne c3
  refine lv_bipush (v := 13) hx hb dX12_place_28 (by decide) ?_
  refine lv_istore_n (lv' := [(2, .int 13), (0, .int p1), (1, .int p2)]) hx hb dX12_place_30 rfl hl (by decide) rfl (fun ls hl => ?_)
  refine lv_bipush (v := 16) hx hb dX12_place_31 (by decide) ?_
  refine lv_iload_n hx hb dX12_place_33 rfl (lv_at hl 2 rfl) ?_
  refine lv_imul hx hb dX12_place_34 ?_
  refine lv_topi (fun z4 ez4 => ?_)
  have qz4 := iv_mul (lo := 48) (hi := 48) ez4 (iv_k 16 (k := 16) (by decide)) bp2 (by decide) (by decide) (by decide) (by decide) (by decide) (by decide) 
  rw [show (16 : Int32).toInt = 16 from rfl] at qz4
  obtain rfl : z4 = (48 : Int32) := iv_sg (k := 48) qz4.2 (by decide)
  refine lv_iload_n hx hb dX12_place_35 rfl (lv_at hl 1 rfl) ?_
  refine lv_iload_n hx hb dX12_place_36 rfl (lv_at hl 0 rfl) ?_
  refine lv_imul hx hb dX12_place_37 ?_
  refine lv_topi (fun z5 ez5 => ?_)
  have qz5 := iv_mul (lo := 0) (hi := 403) ez5 bp1 (iv_k 13 (k := 13) (by decide)) (by decide) (by decide) (by decide) (by decide) (by decide) (by decide) 
  rw [show (13 : Int32).toInt = 13 from rfl] at qz5
  refine lv_iconst (v := 3) hx hb dX12_place_38 (by decide) ?_
  refine lv_iload_n hx hb dX12_place_39 rfl (lv_at hl 2 rfl) ?_
  refine lv_imul hx hb dX12_place_40 ?_
  refine lv_topi (fun z6 ez6 => ?_)
  have qz6 := iv_mul (lo := 9) (hi := 9) ez6 (iv_k 3 (k := 3) (by decide)) bp2 (by decide) (by decide) (by decide) (by decide) (by decide) (by decide) 
  rw [show (3 : Int32).toInt = 3 from rfl] at qz6
  obtain rfl : z6 = (9 : Int32) := iv_sg (k := 9) qz6.2 (by decide)
  refine lv_iadd hx hb dX12_place_41 ?_
  refine lv_topi (fun z7 ez7 => ?_)
  have qz7 := iv_add (lo := 9) (hi := 412) ez7 qz5.2 (iv_k 9 (k := 9) (by decide)) (by decide) (by decide) (by decide) (by decide) 
  rw [show (9 : Int32).toInt = 9 from rfl] at qz7
  refine lv_bipush (v := 15) hx hb dX12_place_42 (by decide) ?_
  refine lv_iand hx hb dX12_place_44 ?_
  refine lv_topi (fun z8 ez8 => ?_)
  have qz8 : 0 ≤ z8.toInt ∧ z8.toInt ≤ 15 := iv_and ez8 (k := 4) (by decide) (by decide) (by decide)
  refine lv_iadd hx hb dX12_place_45 ?_
  refine lv_topi (fun z9 ez9 => ?_)
  have qz9 := iv_add (lo := 48) (hi := 63) ez9 (iv_k 48 (k := 48) (by decide)) qz8 (by decide) (by decide) (by decide) (by decide) 
  rw [show (48 : Int32).toInt = 48 from rfl] at qz9
  subst hQ
  exact W.iret (v := z9) hx hb hr (fun t ht hW => ⟨⟨z9, (), rfl, ⟨iv_m qz9.2 (by decide) (by decide), trivial⟩, by rw [ht]; exact hP⟩, hS.F ht⟩) hS.2.2 dX12_place_46
set_option maxHeartbeats 4000000 in
set_option maxRecDepth 100000 in
theorem kX12_estimateOf_1 (l : Launch) (dC : Nat → ClassId) (dI : Nat → Nat → Nat) (cI cZ cC cJ cD : ClassId) (qf : Nat) (a0 a0_stored a0_version a0_logKey a0_logVersion a0_logMinute a0_logValue a0_isUnderWay a0_mirrored a0_mirrorVersion a0_size a0_cost a0_group a0_groupNumber a0_counter a0_isIn a0_inValue a0_inVersion a0_inMinute a0_inGroup a0_usedAt a0_isPromised a0_promiseValue a0_promiseMinute a0_slotKey a0_slotValue a0_slotVersion a0_slotMinute a0_slotGroup a0_slotNumber a0_wear a0_index a0_leaseKey a0_leaseMinute a0_leaseState a0_wasRead a0_leaseValue a0_leaseVersion a0_leaseRead a0_goes : Nat) (sz : Nat) (f_a0_counter : Nat → Int32) (v_a0_code v_a0_minute v_a0_isDown v_a0_logged v_a0_gets v_a0_answered v_a0_uses v_a0_nextSlot v_a0_numbers v_a0_leases v_a0_hasAnswer v_a0_answerValue v_a0_answerStale v_a0_sketched p1 : Int32) (rf_a0_counter : rg 0 0 64 f_a0_counter) (bv_a0_code : 0 ≤ v_a0_code.toInt ∧ v_a0_code.toInt ≤ 0) (bv_a0_minute : 0 ≤ v_a0_minute.toInt ∧ v_a0_minute.toInt ≤ 0) (bv_a0_isDown : 0 ≤ v_a0_isDown.toInt ∧ v_a0_isDown.toInt ≤ 0) (bv_a0_logged : 0 ≤ v_a0_logged.toInt ∧ v_a0_logged.toInt ≤ 0) (bv_a0_gets : 0 ≤ v_a0_gets.toInt ∧ v_a0_gets.toInt ≤ 0) (bv_a0_answered : 0 ≤ v_a0_answered.toInt ∧ v_a0_answered.toInt ≤ 0) (bv_a0_uses : 0 ≤ v_a0_uses.toInt ∧ v_a0_uses.toInt ≤ 0) (bv_a0_nextSlot : 0 ≤ v_a0_nextSlot.toInt ∧ v_a0_nextSlot.toInt ≤ 0) (bv_a0_numbers : 0 ≤ v_a0_numbers.toInt ∧ v_a0_numbers.toInt ≤ 0) (bv_a0_leases : 0 ≤ v_a0_leases.toInt ∧ v_a0_leases.toInt ≤ 0) (bv_a0_hasAnswer : 0 ≤ v_a0_hasAnswer.toInt ∧ v_a0_hasAnswer.toInt ≤ 0) (bv_a0_answerValue : 0 ≤ v_a0_answerValue.toInt ∧ v_a0_answerValue.toInt ≤ 0) (bv_a0_answerStale : 0 ≤ v_a0_answerStale.toInt ∧ v_a0_answerStale.toInt ≤ 0) (bv_a0_sketched : 0 ≤ v_a0_sketched.toInt ∧ v_a0_sketched.toInt ≤ 0) (bp1 : 0 ≤ p1.toInt ∧ p1.toInt ≤ 31) : Met l yX12_estimateOf wsX12_estimateOf ({ frames := 2, cells := 0, slots := 0, locals := 37 } : Room) (mPre qf [.ref a0, .int p1] sz (dC, dI) (mT cI cZ cC cJ cD) [(a0, .inr (12, [.int v_a0_code, .int v_a0_minute, .int v_a0_isDown, .ref a0_stored, .ref a0_version, .int v_a0_logged, .ref a0_logKey, .ref a0_logVersion, .ref a0_logMinute, .ref a0_logValue, .ref a0_isUnderWay, .ref a0_mirrored, .ref a0_mirrorVersion, .ref a0_size, .ref a0_cost, .ref a0_group, .ref a0_groupNumber, .ref a0_counter, .int v_a0_gets, .int v_a0_answered, .long 0, .ref a0_isIn, .ref a0_inValue, .ref a0_inVersion, .ref a0_inMinute, .ref a0_inGroup, .ref a0_usedAt, .int v_a0_uses, .ref a0_isPromised, .ref a0_promiseValue, .ref a0_promiseMinute, .ref a0_slotKey, .ref a0_slotValue, .ref a0_slotVersion, .ref a0_slotMinute, .ref a0_slotGroup, .ref a0_slotNumber, .int v_a0_nextSlot, .int v_a0_numbers, .ref a0_wear, .ref a0_index, .int v_a0_leases, .long 0, .ref a0_leaseKey, .ref a0_leaseMinute, .ref a0_leaseState, .ref a0_wasRead, .ref a0_leaseValue, .ref a0_leaseVersion, .ref a0_leaseRead, .int v_a0_hasAnswer, .int v_a0_answerValue, .int v_a0_answerStale, .ref a0_goes, .int v_a0_sketched])), (a0_counter, .inl (cI, 64, .inl f_a0_counter))]) (mQi (fun (r : Int32) (u : Unit) => (0 ≤ r.toInt ∧ r.toInt ≤ 0) ∧ True) (fun (u : Unit) => [(a0, .inr (12, [.int v_a0_code, .int v_a0_minute, .int v_a0_isDown, .ref a0_stored, .ref a0_version, .int v_a0_logged, .ref a0_logKey, .ref a0_logVersion, .ref a0_logMinute, .ref a0_logValue, .ref a0_isUnderWay, .ref a0_mirrored, .ref a0_mirrorVersion, .ref a0_size, .ref a0_cost, .ref a0_group, .ref a0_groupNumber, .ref a0_counter, .int v_a0_gets, .int v_a0_answered, .long 0, .ref a0_isIn, .ref a0_inValue, .ref a0_inVersion, .ref a0_inMinute, .ref a0_inGroup, .ref a0_usedAt, .int v_a0_uses, .ref a0_isPromised, .ref a0_promiseValue, .ref a0_promiseMinute, .ref a0_slotKey, .ref a0_slotValue, .ref a0_slotVersion, .ref a0_slotMinute, .ref a0_slotGroup, .ref a0_slotNumber, .int v_a0_nextSlot, .int v_a0_numbers, .ref a0_wear, .ref a0_index, .int v_a0_leases, .long 0, .ref a0_leaseKey, .ref a0_leaseMinute, .ref a0_leaseState, .ref a0_wasRead, .ref a0_leaseValue, .ref a0_leaseVersion, .ref a0_leaseRead, .int v_a0_hasAnswer, .int v_a0_answerValue, .int v_a0_answerStale, .ref a0_goes, .int v_a0_sketched])), (a0_counter, .inl (cI, 64, .inl f_a0_counter))]) (dC, dI) (va_A [(a0, .inr (12, [.int v_a0_code, .int v_a0_minute, .int v_a0_isDown, .ref a0_stored, .ref a0_version, .int v_a0_logged, .ref a0_logKey, .ref a0_logVersion, .ref a0_logMinute, .ref a0_logValue, .ref a0_isUnderWay, .ref a0_mirrored, .ref a0_mirrorVersion, .ref a0_size, .ref a0_cost, .ref a0_group, .ref a0_groupNumber, .ref a0_counter, .int v_a0_gets, .int v_a0_answered, .long 0, .ref a0_isIn, .ref a0_inValue, .ref a0_inVersion, .ref a0_inMinute, .ref a0_inGroup, .ref a0_usedAt, .int v_a0_uses, .ref a0_isPromised, .ref a0_promiseValue, .ref a0_promiseMinute, .ref a0_slotKey, .ref a0_slotValue, .ref a0_slotVersion, .ref a0_slotMinute, .ref a0_slotGroup, .ref a0_slotNumber, .int v_a0_nextSlot, .int v_a0_numbers, .ref a0_wear, .ref a0_index, .int v_a0_leases, .long 0, .ref a0_leaseKey, .ref a0_leaseMinute, .ref a0_leaseState, .ref a0_wasRead, .ref a0_leaseValue, .ref a0_leaseVersion, .ref a0_leaseRead, .int v_a0_hasAnswer, .int v_a0_answerValue, .int v_a0_answerStale, .ref a0_goes, .int v_a0_sketched])), (a0_counter, .inl (cI, 64, .inl f_a0_counter))] sz)) 0 0 (va_A [(a0, .inr (12, [.int v_a0_code, .int v_a0_minute, .int v_a0_isDown, .ref a0_stored, .ref a0_version, .int v_a0_logged, .ref a0_logKey, .ref a0_logVersion, .ref a0_logMinute, .ref a0_logValue, .ref a0_isUnderWay, .ref a0_mirrored, .ref a0_mirrorVersion, .ref a0_size, .ref a0_cost, .ref a0_group, .ref a0_groupNumber, .ref a0_counter, .int v_a0_gets, .int v_a0_answered, .long 0, .ref a0_isIn, .ref a0_inValue, .ref a0_inVersion, .ref a0_inMinute, .ref a0_inGroup, .ref a0_usedAt, .int v_a0_uses, .ref a0_isPromised, .ref a0_promiseValue, .ref a0_promiseMinute, .ref a0_slotKey, .ref a0_slotValue, .ref a0_slotVersion, .ref a0_slotMinute, .ref a0_slotGroup, .ref a0_slotNumber, .int v_a0_nextSlot, .int v_a0_numbers, .ref a0_wear, .ref a0_index, .int v_a0_leases, .long 0, .ref a0_leaseKey, .ref a0_leaseMinute, .ref a0_leaseState, .ref a0_wasRead, .ref a0_leaseValue, .ref a0_leaseVersion, .ref a0_leaseRead, .int v_a0_hasAnswer, .int v_a0_answerValue, .int v_a0_answerStale, .ref a0_goes, .int v_a0_sketched])), (a0_counter, .inl (cI, 64, .inl f_a0_counter))] sz) := by
  refine mMet (Qc := fun A => mQi (fun (r : Int32) (u : Unit) => (0 ≤ r.toInt ∧ r.toInt ≤ 0) ∧ True) (fun (u : Unit) => [(a0, .inr (12, [.int v_a0_code, .int v_a0_minute, .int v_a0_isDown, .ref a0_stored, .ref a0_version, .int v_a0_logged, .ref a0_logKey, .ref a0_logVersion, .ref a0_logMinute, .ref a0_logValue, .ref a0_isUnderWay, .ref a0_mirrored, .ref a0_mirrorVersion, .ref a0_size, .ref a0_cost, .ref a0_group, .ref a0_groupNumber, .ref a0_counter, .int v_a0_gets, .int v_a0_answered, .long 0, .ref a0_isIn, .ref a0_inValue, .ref a0_inVersion, .ref a0_inMinute, .ref a0_inGroup, .ref a0_usedAt, .int v_a0_uses, .ref a0_isPromised, .ref a0_promiseValue, .ref a0_promiseMinute, .ref a0_slotKey, .ref a0_slotValue, .ref a0_slotVersion, .ref a0_slotMinute, .ref a0_slotGroup, .ref a0_slotNumber, .int v_a0_nextSlot, .int v_a0_numbers, .ref a0_wear, .ref a0_index, .int v_a0_leases, .long 0, .ref a0_leaseKey, .ref a0_leaseMinute, .ref a0_leaseState, .ref a0_wasRead, .ref a0_leaseValue, .ref a0_leaseVersion, .ref a0_leaseRead, .int v_a0_hasAnswer, .int v_a0_answerValue, .int v_a0_answerStale, .ref a0_goes, .int v_a0_sketched])), (a0_counter, .inl (cI, 64, .inl f_a0_counter))]) (dC, dI) A) (own := RX12) (by decide) rfl rfl (Nat.le_of_ble_eq_true rfl) ?_
  intro p e s m args below meth c hx hb hr hts hown hml hlk A hsz hP hK hD hS hA hE ls hl Q hQ
  have hl : lv_has ls 4 [(0, .ref a0), (1, .int p1)] := hl
  have hinX12 : ∀ w ∈ u_ws RX12 TX12 55, w ∈ wsX12_estimateOf := fun w h => List.mem_cons_of_mem _ (List.mem_append_left _ (List.mem_append_right _ h))
  refine lv_bipush (v := 15) hx hb dX12_estimateOf_0 (by decide) ?_
  refine lv_istore_n (lv' := [(2, .int 15), (0, .ref a0), (1, .int p1)]) hx hb dX12_estimateOf_2 rfl hl (by decide) rfl (fun ls hl => ?_)
  refine lv_iconst (v := 0) hx hb dX12_estimateOf_3 (by decide) ?_
  refine lv_istore_n (lv' := [(3, .int 0), (2, .int 15), (0, .ref a0), (1, .int p1)]) hx hb dX12_estimateOf_4 rfl hl (by decide) rfl (fun ls hl => ?_)
  refine lv_iload_n hx hb dX12_estimateOf_5 rfl (lv_at hl 0 rfl) ?_
  refine lv_iconst (v := 4) hx hb dX12_estimateOf_6 (by decide) ?_
  refine lv_icmp_ge (tgt := 31) hx hb dX12_estimateOf_7 (by decide) (fun c => (z_le (iv_k 4 (k := 4) (by decide)) (iv_k 0 (k := 0) (by decide)) (c_le c) (by decide)).elim) (fun c1 => ?_)
  have c1 := c_nle c1
  refine lv_iload_n hx hb dX12_estimateOf_10 rfl (lv_at hl 1 rfl) ?_
  refine lv_aload_n hx hb dX12_estimateOf_11 rfl (lv_at hl 2 rfl) ?_
  refine va_get (D := (dC, dI)) (ci := 12) (v := .ref a0_counter) (C := RX12) (T := TX12) (N := 55) hx hb hts hinX12 hown hK hP 0 rfl rfl 17 (by decide) (hts (.fieldLink RX12 50 "SlipstreamCacheModel" "counter" "[I") (List.mem_of_getElem? (i := 1) rfl)) (fun _ h9 => h9) rfl dX12_estimateOf_12 ?_
  refine lv_iload_n hx hb dX12_estimateOf_15 rfl (lv_at hl 3 rfl) ?_
  refine lv_iload_n hx hb dX12_estimateOf_16 rfl (lv_at hl 0 rfl) ?_
  refine mSi (As := [.int p1, .int 0]) (rest := [.ref a0_counter, .int 15]) (wc := []) ⟨hx, hb, hml, hown, hts⟩ (kX12_place_1 l dC dI cI cZ cC cJ cD qf  _ p1 (0 : Int32) (iv_m bp1 (by decide) (by decide)) (iv_m (iv_k 0 (k := 0) (by decide)) (by decide) (by decide))) (va_cwS 2 hts gX12_estimateOf_X12_place rfl rfl rfl (by decide +kernel) ⟨(Nat.le_of_ble_eq_true rfl), (Nat.le_of_ble_eq_true rfl)⟩) hE hK hP hD rfl hS hA [] rfl rfl rfl hl rfl (Nat.le_of_ble_eq_true rfl) dX12_estimateOf_17 ⟨(Nat.le_of_ble_eq_true rfl), (Nat.le_of_ble_eq_true rfl)⟩ (fun _ => rfl) (fun z2 uu3 H locs hw hP hS => ?_)
  have bz2 : 0 ≤ z2.toInt ∧ z2.toInt ≤ 15 := hw.1
  have hP : va_P (dC, dI) vqCl [(a0, .inr (12, [.int v_a0_code, .int v_a0_minute, .int v_a0_isDown, .ref a0_stored, .ref a0_version, .int v_a0_logged, .ref a0_logKey, .ref a0_logVersion, .ref a0_logMinute, .ref a0_logValue, .ref a0_isUnderWay, .ref a0_mirrored, .ref a0_mirrorVersion, .ref a0_size, .ref a0_cost, .ref a0_group, .ref a0_groupNumber, .ref a0_counter, .int v_a0_gets, .int v_a0_answered, .long 0, .ref a0_isIn, .ref a0_inValue, .ref a0_inVersion, .ref a0_inMinute, .ref a0_inGroup, .ref a0_usedAt, .int v_a0_uses, .ref a0_isPromised, .ref a0_promiseValue, .ref a0_promiseMinute, .ref a0_slotKey, .ref a0_slotValue, .ref a0_slotVersion, .ref a0_slotMinute, .ref a0_slotGroup, .ref a0_slotNumber, .int v_a0_nextSlot, .int v_a0_numbers, .ref a0_wear, .ref a0_index, .int v_a0_leases, .long 0, .ref a0_leaseKey, .ref a0_leaseMinute, .ref a0_leaseState, .ref a0_wasRead, .ref a0_leaseValue, .ref a0_leaseVersion, .ref a0_leaseRead, .int v_a0_hasAnswer, .int v_a0_answerValue, .int v_a0_answerStale, .ref a0_goes, .int v_a0_sketched])), (a0_counter, .inl (cI, 64, .inl f_a0_counter))] H := hP
  refine va_iald hx hb hK hP 1 0 rfl rfl (iv_in bz2 (by decide) (by decide)) dX12_estimateOf_20 ?_
  refine lv_topi (fun z4 ez4 => ?_)
  have bz4 : 0 ≤ z4.toInt ∧ z4.toInt ≤ 0 := iv_at rf_a0_counter bz2 (by decide) (by decide) ez4
  refine va_mmin hx hb (hml.trans hl.1.symm) hown (hts (.methodLink RX12 141 Lib.Math.min.name) (List.mem_of_getElem? (i := 2) rfl)) (hts (.static Lib.Math.min.name) (List.mem_of_getElem? (i := 3) rfl)) (hts (.initialized "java/lang/Math") (List.mem_of_getElem? (i := 4) rfl)) (hts (.code Lib.Math.min.name Lib.Math.min.code 2 (some .int)) (List.mem_of_getElem? (i := 5) rfl)) (Nat.le_of_ble_eq_true rfl) (Nat.le_of_ble_eq_true rfl) (Nat.le_of_ble_eq_true rfl) (Nat.le_of_ble_eq_true rfl) dX12_estimateOf_21 ?_
  refine lv_topi (fun z5 ez5 => ?_)
  have bz5 : 0 ≤ z5.toInt ∧ z5.toInt ≤ 0 := iv_min ez5 (iv_k 15 (k := 15) (by decide)) bz4 (by decide) (by decide) (by decide)
  refine lv_istore_n (lv' := [(2, .int z5), (3, .int 0), (0, .ref a0), (1, .int p1)]) hx hb dX12_estimateOf_24 rfl hl (by decide) rfl (fun ls hl => ?_)
  obtain ⟨z6, ez6⟩ : ∃ y : Int32, y = (0 : Int32) + 1 := ⟨_, rfl⟩
  refine lv_iinc (v := z6) (lv' := [(3, .int z6), (2, .int z5), (0, .ref a0), (1, .int p1)]) hx hb dX12_estimateOf_25 hl (k := 1) rfl (by rw [ez6]; rfl) (by decide) rfl (fun ls hl => ?_)
  have qz6 := iv_add (lo := 1) (hi := 1) ez6 (iv_k 0 (k := 0) (by decide)) (iv_k 1 (k := 1) (by decide)) (by decide) (by decide) (by decide) (by decide)
  rw [show (1 : Int32).toInt = 1 from rfl] at qz6
  refine lv_goto (tgt := 5) hx hb dX12_estimateOf_28 (by decide) ?_
  refine lv_iload_n hx hb dX12_estimateOf_5 rfl (lv_at hl 0 rfl) ?_
  refine lv_iconst (v := 4) hx hb dX12_estimateOf_6 (by decide) ?_
  refine lv_icmp_ge (tgt := 31) hx hb dX12_estimateOf_7 (by decide) (fun c => (z_le (iv_k 4 (k := 4) (by decide)) qz6.2 (c_le c) (by decide)).elim) (fun c7 => ?_)
  have c7 := c_nle c7
  refine lv_iload_n hx hb dX12_estimateOf_10 rfl (lv_at hl 1 rfl) ?_
  refine lv_aload_n hx hb dX12_estimateOf_11 rfl (lv_at hl 2 rfl) ?_
  refine va_get (D := (dC, dI)) (ci := 12) (v := .ref a0_counter) (C := RX12) (T := TX12) (N := 55) hx hb hts hinX12 hown hK hP 0 rfl rfl 17 (by decide) (hts (.fieldLink RX12 50 "SlipstreamCacheModel" "counter" "[I") (List.mem_of_getElem? (i := 1) rfl)) (fun _ h9 => h9) rfl dX12_estimateOf_12 ?_
  refine lv_iload_n hx hb dX12_estimateOf_15 rfl (lv_at hl 3 rfl) ?_
  refine lv_iload_n hx hb dX12_estimateOf_16 rfl (lv_at hl 0 rfl) ?_
  refine mSi (As := [.int p1, .int z6]) (rest := [.ref a0_counter, .int z5]) (wc := []) ⟨hx, hb, hml, hown, hts⟩ (kX12_place_2 l dC dI cI cZ cC cJ cD qf  _ p1 z6 (iv_m bp1 (by decide) (by decide)) (iv_m qz6.2 (by decide) (by decide))) (va_cwS 2 hts gX12_estimateOf_X12_place rfl rfl rfl (by decide +kernel) ⟨(Nat.le_of_ble_eq_true rfl), (Nat.le_of_ble_eq_true rfl)⟩) hE hK hP hD rfl hS hA [] rfl rfl rfl hl rfl (Nat.le_of_ble_eq_true rfl) dX12_estimateOf_17 ⟨(Nat.le_of_ble_eq_true rfl), (Nat.le_of_ble_eq_true rfl)⟩ (fun _ => rfl) (fun z8 uu9 H locs hw hP hS => ?_)
  have bz8 : 16 ≤ z8.toInt ∧ z8.toInt ≤ 31 := hw.1
  have hP : va_P (dC, dI) vqCl [(a0, .inr (12, [.int v_a0_code, .int v_a0_minute, .int v_a0_isDown, .ref a0_stored, .ref a0_version, .int v_a0_logged, .ref a0_logKey, .ref a0_logVersion, .ref a0_logMinute, .ref a0_logValue, .ref a0_isUnderWay, .ref a0_mirrored, .ref a0_mirrorVersion, .ref a0_size, .ref a0_cost, .ref a0_group, .ref a0_groupNumber, .ref a0_counter, .int v_a0_gets, .int v_a0_answered, .long 0, .ref a0_isIn, .ref a0_inValue, .ref a0_inVersion, .ref a0_inMinute, .ref a0_inGroup, .ref a0_usedAt, .int v_a0_uses, .ref a0_isPromised, .ref a0_promiseValue, .ref a0_promiseMinute, .ref a0_slotKey, .ref a0_slotValue, .ref a0_slotVersion, .ref a0_slotMinute, .ref a0_slotGroup, .ref a0_slotNumber, .int v_a0_nextSlot, .int v_a0_numbers, .ref a0_wear, .ref a0_index, .int v_a0_leases, .long 0, .ref a0_leaseKey, .ref a0_leaseMinute, .ref a0_leaseState, .ref a0_wasRead, .ref a0_leaseValue, .ref a0_leaseVersion, .ref a0_leaseRead, .int v_a0_hasAnswer, .int v_a0_answerValue, .int v_a0_answerStale, .ref a0_goes, .int v_a0_sketched])), (a0_counter, .inl (cI, 64, .inl f_a0_counter))] H := hP
  refine va_iald hx hb hK hP 1 0 rfl rfl (iv_in bz8 (by decide) (by decide)) dX12_estimateOf_20 ?_
  refine lv_topi (fun z10 ez10 => ?_)
  have bz10 : 0 ≤ z10.toInt ∧ z10.toInt ≤ 0 := iv_at rf_a0_counter bz8 (by decide) (by decide) ez10
  refine va_mmin hx hb (hml.trans hl.1.symm) hown (hts (.methodLink RX12 141 Lib.Math.min.name) (List.mem_of_getElem? (i := 2) rfl)) (hts (.static Lib.Math.min.name) (List.mem_of_getElem? (i := 3) rfl)) (hts (.initialized "java/lang/Math") (List.mem_of_getElem? (i := 4) rfl)) (hts (.code Lib.Math.min.name Lib.Math.min.code 2 (some .int)) (List.mem_of_getElem? (i := 5) rfl)) (Nat.le_of_ble_eq_true rfl) (Nat.le_of_ble_eq_true rfl) (Nat.le_of_ble_eq_true rfl) (Nat.le_of_ble_eq_true rfl) dX12_estimateOf_21 ?_
  refine lv_topi (fun z11 ez11 => ?_)
  have bz11 : 0 ≤ z11.toInt ∧ z11.toInt ≤ 0 := iv_min ez11 bz5 bz10 (by decide) (by decide) (by decide)
  refine lv_istore_n (lv' := [(2, .int z11), (3, .int z6), (0, .ref a0), (1, .int p1)]) hx hb dX12_estimateOf_24 rfl hl (by decide) rfl (fun ls hl => ?_)
  obtain ⟨z12, ez12⟩ : ∃ y : Int32, y = z6 + 1 := ⟨_, rfl⟩
  refine lv_iinc (v := z12) (lv' := [(3, .int z12), (2, .int z11), (0, .ref a0), (1, .int p1)]) hx hb dX12_estimateOf_25 hl (k := 1) rfl (by rw [ez12]; rfl) (by decide) rfl (fun ls hl => ?_)
  have qz12 := iv_add (lo := 2) (hi := 2) ez12 qz6.2 (iv_k 1 (k := 1) (by decide)) (by decide) (by decide) (by decide) (by decide)
  rw [show (1 : Int32).toInt = 1 from rfl] at qz12
  refine lv_goto (tgt := 5) hx hb dX12_estimateOf_28 (by decide) ?_
  refine lv_iload_n hx hb dX12_estimateOf_5 rfl (lv_at hl 0 rfl) ?_
  refine lv_iconst (v := 4) hx hb dX12_estimateOf_6 (by decide) ?_
  refine lv_icmp_ge (tgt := 31) hx hb dX12_estimateOf_7 (by decide) (fun c => (z_le (iv_k 4 (k := 4) (by decide)) qz12.2 (c_le c) (by decide)).elim) (fun c13 => ?_)
  have c13 := c_nle c13
  refine lv_iload_n hx hb dX12_estimateOf_10 rfl (lv_at hl 1 rfl) ?_
  refine lv_aload_n hx hb dX12_estimateOf_11 rfl (lv_at hl 2 rfl) ?_
  refine va_get (D := (dC, dI)) (ci := 12) (v := .ref a0_counter) (C := RX12) (T := TX12) (N := 55) hx hb hts hinX12 hown hK hP 0 rfl rfl 17 (by decide) (hts (.fieldLink RX12 50 "SlipstreamCacheModel" "counter" "[I") (List.mem_of_getElem? (i := 1) rfl)) (fun _ h9 => h9) rfl dX12_estimateOf_12 ?_
  refine lv_iload_n hx hb dX12_estimateOf_15 rfl (lv_at hl 3 rfl) ?_
  refine lv_iload_n hx hb dX12_estimateOf_16 rfl (lv_at hl 0 rfl) ?_
  refine mSi (As := [.int p1, .int z12]) (rest := [.ref a0_counter, .int z11]) (wc := []) ⟨hx, hb, hml, hown, hts⟩ (kX12_place_3 l dC dI cI cZ cC cJ cD qf  _ p1 z12 (iv_m bp1 (by decide) (by decide)) (iv_m qz12.2 (by decide) (by decide))) (va_cwS 2 hts gX12_estimateOf_X12_place rfl rfl rfl (by decide +kernel) ⟨(Nat.le_of_ble_eq_true rfl), (Nat.le_of_ble_eq_true rfl)⟩) hE hK hP hD rfl hS hA [] rfl rfl rfl hl rfl (Nat.le_of_ble_eq_true rfl) dX12_estimateOf_17 ⟨(Nat.le_of_ble_eq_true rfl), (Nat.le_of_ble_eq_true rfl)⟩ (fun _ => rfl) (fun z14 uu15 H locs hw hP hS => ?_)
  have bz14 : 32 ≤ z14.toInt ∧ z14.toInt ≤ 47 := hw.1
  have hP : va_P (dC, dI) vqCl [(a0, .inr (12, [.int v_a0_code, .int v_a0_minute, .int v_a0_isDown, .ref a0_stored, .ref a0_version, .int v_a0_logged, .ref a0_logKey, .ref a0_logVersion, .ref a0_logMinute, .ref a0_logValue, .ref a0_isUnderWay, .ref a0_mirrored, .ref a0_mirrorVersion, .ref a0_size, .ref a0_cost, .ref a0_group, .ref a0_groupNumber, .ref a0_counter, .int v_a0_gets, .int v_a0_answered, .long 0, .ref a0_isIn, .ref a0_inValue, .ref a0_inVersion, .ref a0_inMinute, .ref a0_inGroup, .ref a0_usedAt, .int v_a0_uses, .ref a0_isPromised, .ref a0_promiseValue, .ref a0_promiseMinute, .ref a0_slotKey, .ref a0_slotValue, .ref a0_slotVersion, .ref a0_slotMinute, .ref a0_slotGroup, .ref a0_slotNumber, .int v_a0_nextSlot, .int v_a0_numbers, .ref a0_wear, .ref a0_index, .int v_a0_leases, .long 0, .ref a0_leaseKey, .ref a0_leaseMinute, .ref a0_leaseState, .ref a0_wasRead, .ref a0_leaseValue, .ref a0_leaseVersion, .ref a0_leaseRead, .int v_a0_hasAnswer, .int v_a0_answerValue, .int v_a0_answerStale, .ref a0_goes, .int v_a0_sketched])), (a0_counter, .inl (cI, 64, .inl f_a0_counter))] H := hP
  refine va_iald hx hb hK hP 1 0 rfl rfl (iv_in bz14 (by decide) (by decide)) dX12_estimateOf_20 ?_
  refine lv_topi (fun z16 ez16 => ?_)
  have bz16 : 0 ≤ z16.toInt ∧ z16.toInt ≤ 0 := iv_at rf_a0_counter bz14 (by decide) (by decide) ez16
  refine va_mmin hx hb (hml.trans hl.1.symm) hown (hts (.methodLink RX12 141 Lib.Math.min.name) (List.mem_of_getElem? (i := 2) rfl)) (hts (.static Lib.Math.min.name) (List.mem_of_getElem? (i := 3) rfl)) (hts (.initialized "java/lang/Math") (List.mem_of_getElem? (i := 4) rfl)) (hts (.code Lib.Math.min.name Lib.Math.min.code 2 (some .int)) (List.mem_of_getElem? (i := 5) rfl)) (Nat.le_of_ble_eq_true rfl) (Nat.le_of_ble_eq_true rfl) (Nat.le_of_ble_eq_true rfl) (Nat.le_of_ble_eq_true rfl) dX12_estimateOf_21 ?_
  refine lv_topi (fun z17 ez17 => ?_)
  have bz17 : 0 ≤ z17.toInt ∧ z17.toInt ≤ 0 := iv_min ez17 bz11 bz16 (by decide) (by decide) (by decide)
  refine lv_istore_n (lv' := [(2, .int z17), (3, .int z12), (0, .ref a0), (1, .int p1)]) hx hb dX12_estimateOf_24 rfl hl (by decide) rfl (fun ls hl => ?_)
  obtain ⟨z18, ez18⟩ : ∃ y : Int32, y = z12 + 1 := ⟨_, rfl⟩
  refine lv_iinc (v := z18) (lv' := [(3, .int z18), (2, .int z17), (0, .ref a0), (1, .int p1)]) hx hb dX12_estimateOf_25 hl (k := 1) rfl (by rw [ez18]; rfl) (by decide) rfl (fun ls hl => ?_)
  have qz18 := iv_add (lo := 3) (hi := 3) ez18 qz12.2 (iv_k 1 (k := 1) (by decide)) (by decide) (by decide) (by decide) (by decide)
  rw [show (1 : Int32).toInt = 1 from rfl] at qz18
  refine lv_goto (tgt := 5) hx hb dX12_estimateOf_28 (by decide) ?_
  refine lv_iload_n hx hb dX12_estimateOf_5 rfl (lv_at hl 0 rfl) ?_
  refine lv_iconst (v := 4) hx hb dX12_estimateOf_6 (by decide) ?_
  refine lv_icmp_ge (tgt := 31) hx hb dX12_estimateOf_7 (by decide) (fun c => (z_le (iv_k 4 (k := 4) (by decide)) qz18.2 (c_le c) (by decide)).elim) (fun c19 => ?_)
  have c19 := c_nle c19
  refine lv_iload_n hx hb dX12_estimateOf_10 rfl (lv_at hl 1 rfl) ?_
  refine lv_aload_n hx hb dX12_estimateOf_11 rfl (lv_at hl 2 rfl) ?_
  refine va_get (D := (dC, dI)) (ci := 12) (v := .ref a0_counter) (C := RX12) (T := TX12) (N := 55) hx hb hts hinX12 hown hK hP 0 rfl rfl 17 (by decide) (hts (.fieldLink RX12 50 "SlipstreamCacheModel" "counter" "[I") (List.mem_of_getElem? (i := 1) rfl)) (fun _ h9 => h9) rfl dX12_estimateOf_12 ?_
  refine lv_iload_n hx hb dX12_estimateOf_15 rfl (lv_at hl 3 rfl) ?_
  refine lv_iload_n hx hb dX12_estimateOf_16 rfl (lv_at hl 0 rfl) ?_
  refine mSi (As := [.int p1, .int z18]) (rest := [.ref a0_counter, .int z17]) (wc := []) ⟨hx, hb, hml, hown, hts⟩ (kX12_place_4 l dC dI cI cZ cC cJ cD qf  _ p1 z18 (iv_m bp1 (by decide) (by decide)) (iv_m qz18.2 (by decide) (by decide))) (va_cwS 2 hts gX12_estimateOf_X12_place rfl rfl rfl (by decide +kernel) ⟨(Nat.le_of_ble_eq_true rfl), (Nat.le_of_ble_eq_true rfl)⟩) hE hK hP hD rfl hS hA [] rfl rfl rfl hl rfl (Nat.le_of_ble_eq_true rfl) dX12_estimateOf_17 ⟨(Nat.le_of_ble_eq_true rfl), (Nat.le_of_ble_eq_true rfl)⟩ (fun _ => rfl) (fun z20 uu21 H locs hw hP hS => ?_)
  have bz20 : 48 ≤ z20.toInt ∧ z20.toInt ≤ 63 := hw.1
  have hP : va_P (dC, dI) vqCl [(a0, .inr (12, [.int v_a0_code, .int v_a0_minute, .int v_a0_isDown, .ref a0_stored, .ref a0_version, .int v_a0_logged, .ref a0_logKey, .ref a0_logVersion, .ref a0_logMinute, .ref a0_logValue, .ref a0_isUnderWay, .ref a0_mirrored, .ref a0_mirrorVersion, .ref a0_size, .ref a0_cost, .ref a0_group, .ref a0_groupNumber, .ref a0_counter, .int v_a0_gets, .int v_a0_answered, .long 0, .ref a0_isIn, .ref a0_inValue, .ref a0_inVersion, .ref a0_inMinute, .ref a0_inGroup, .ref a0_usedAt, .int v_a0_uses, .ref a0_isPromised, .ref a0_promiseValue, .ref a0_promiseMinute, .ref a0_slotKey, .ref a0_slotValue, .ref a0_slotVersion, .ref a0_slotMinute, .ref a0_slotGroup, .ref a0_slotNumber, .int v_a0_nextSlot, .int v_a0_numbers, .ref a0_wear, .ref a0_index, .int v_a0_leases, .long 0, .ref a0_leaseKey, .ref a0_leaseMinute, .ref a0_leaseState, .ref a0_wasRead, .ref a0_leaseValue, .ref a0_leaseVersion, .ref a0_leaseRead, .int v_a0_hasAnswer, .int v_a0_answerValue, .int v_a0_answerStale, .ref a0_goes, .int v_a0_sketched])), (a0_counter, .inl (cI, 64, .inl f_a0_counter))] H := hP
  refine va_iald hx hb hK hP 1 0 rfl rfl (iv_in bz20 (by decide) (by decide)) dX12_estimateOf_20 ?_
  refine lv_topi (fun z22 ez22 => ?_)
  have bz22 : 0 ≤ z22.toInt ∧ z22.toInt ≤ 0 := iv_at rf_a0_counter bz20 (by decide) (by decide) ez22
  refine va_mmin hx hb (hml.trans hl.1.symm) hown (hts (.methodLink RX12 141 Lib.Math.min.name) (List.mem_of_getElem? (i := 2) rfl)) (hts (.static Lib.Math.min.name) (List.mem_of_getElem? (i := 3) rfl)) (hts (.initialized "java/lang/Math") (List.mem_of_getElem? (i := 4) rfl)) (hts (.code Lib.Math.min.name Lib.Math.min.code 2 (some .int)) (List.mem_of_getElem? (i := 5) rfl)) (Nat.le_of_ble_eq_true rfl) (Nat.le_of_ble_eq_true rfl) (Nat.le_of_ble_eq_true rfl) (Nat.le_of_ble_eq_true rfl) dX12_estimateOf_21 ?_
  refine lv_topi (fun z23 ez23 => ?_)
  have bz23 : 0 ≤ z23.toInt ∧ z23.toInt ≤ 0 := iv_min ez23 bz17 bz22 (by decide) (by decide) (by decide)
  refine lv_istore_n (lv' := [(2, .int z23), (3, .int z18), (0, .ref a0), (1, .int p1)]) hx hb dX12_estimateOf_24 rfl hl (by decide) rfl (fun ls hl => ?_)
  obtain ⟨z24, ez24⟩ : ∃ y : Int32, y = z18 + 1 := ⟨_, rfl⟩
  refine lv_iinc (v := z24) (lv' := [(3, .int z24), (2, .int z23), (0, .ref a0), (1, .int p1)]) hx hb dX12_estimateOf_25 hl (k := 1) rfl (by rw [ez24]; rfl) (by decide) rfl (fun ls hl => ?_)
  have qz24 := iv_add (lo := 4) (hi := 4) ez24 qz18.2 (iv_k 1 (k := 1) (by decide)) (by decide) (by decide) (by decide) (by decide)
  rw [show (1 : Int32).toInt = 1 from rfl] at qz24
  refine lv_goto (tgt := 5) hx hb dX12_estimateOf_28 (by decide) ?_
  refine lv_iload_n hx hb dX12_estimateOf_5 rfl (lv_at hl 0 rfl) ?_
  refine lv_iconst (v := 4) hx hb dX12_estimateOf_6 (by decide) ?_
  refine lv_icmp_ge (tgt := 31) hx hb dX12_estimateOf_7 (by decide) (fun c25 => ?_) (fun c => (z_lt qz24.2 (iv_k 4 (k := 4) (by decide)) (c_nle c) (by decide)).elim)
  have c25 := c_le c25
  refine lv_iload_n hx hb dX12_estimateOf_31 rfl (lv_at hl 1 rfl) ?_
  subst hQ
  exact W.iret (v := z23) hx hb hr (fun t ht hW => ⟨⟨z23, (), rfl, ⟨iv_m bz23 (by decide) (by decide), trivial⟩, by rw [ht]; exact hP⟩, hS.F ht⟩) hS.2.2 dX12_estimateOf_32
set_option maxHeartbeats 4000000 in
set_option maxRecDepth 100000 in
theorem kX12_place_7 (l : Launch) (dC : Nat → ClassId) (dI : Nat → Nat → Nat) (cI cZ cC cJ cD : ClassId) (qf : Nat) (sz : Nat) (p1 p2 : Int32) (bp1 : 0 ≤ p1.toInt ∧ p1.toInt ≤ 31) (bp2 : 0 ≤ p2.toInt ∧ p2.toInt ≤ 3) : Met l yX12_place wsX12_place ({ frames := 1, cells := 0, slots := 0, locals := 14 } : Room) (mPre qf [.int p1, .int p2] sz (dC, dI) (mT cI cZ cC cJ cD) []) (mQi (fun (r : Int32) (u : Unit) => (0 ≤ r.toInt ∧ r.toInt ≤ 63) ∧ True) (fun (u : Unit) => []) (dC, dI) (va_A [] sz)) 0 0 (va_A [] sz) := by
  refine mMet (Qc := fun A => mQi (fun (r : Int32) (u : Unit) => (0 ≤ r.toInt ∧ r.toInt ≤ 63) ∧ True) (fun (u : Unit) => []) (dC, dI) A) (own := RX12) (by decide) rfl rfl (Nat.le_of_ble_eq_true rfl) ?_
  intro p e s m args below meth c hx hb hr hts hown hml hlk A hsz hP hK hD hS hA hE ls hl Q hQ
  have hl : lv_has ls 3 [(0, .int p1), (1, .int p2)] := hl
  refine lv_iload_n hx hb dX12_place_0 rfl (lv_at hl 1 rfl) ?_
  refine lv_if_ne (tgt := 8) hx hb dX12_place_1 (by decide) (fun c1 => ?_) (fun c1 => ?_)
  · have c1 := c_ne c1
    have bp2_c1 : 1 ≤ p2.toInt ∧ p2.toInt ≤ 3 := n_ne bp2 (iv_k 0 (k := 0) (by decide)) c1 (by decide) (by decide)
    refine lv_iload_n hx hb dX12_place_8 rfl (lv_at hl 1 rfl) ?_
    refine lv_iconst (v := 1) hx hb dX12_place_9 (by decide) ?_
    refine lv_icmp_ne (tgt := 18) hx hb dX12_place_10 (by decide) (fun c2 => ?_) (fun c2 => ?_)
    · have c2 := c_ne c2
      have bp2_c2 : 2 ≤ p2.toInt ∧ p2.toInt ≤ 3 := n_ne bp2_c1 (iv_k 1 (k := 1) (by decide)) c2 (by decide) (by decide)
      refine lv_iload_n hx hb dX12_place_18 rfl (lv_at hl 1 rfl) ?_
      refine lv_iconst (v := 2) hx hb dX12_place_19 (by decide) ?_
      refine lv_icmp_ne (tgt := 28) hx hb dX12_place_20 (by decide) (fun c3 => ?_) (fun c3 => ?_)
      · have c3 := c_ne c3
        have bp2_c3 : 3 ≤ p2.toInt ∧ p2.toInt ≤ 3 := n_ne bp2_c2 (iv_k 2 (k := 2) (by decide)) c3 (by decide) (by decide)
        refine lv_bipush (v := 13) hx hb dX12_place_28 (by decide) ?_
        refine lv_istore_n (lv' := [(2, .int 13), (0, .int p1), (1, .int p2)]) hx hb dX12_place_30 rfl hl (by decide) rfl (fun ls hl => ?_)
        refine lv_bipush (v := 16) hx hb dX12_place_31 (by decide) ?_
        refine lv_iload_n hx hb dX12_place_33 rfl (lv_at hl 2 rfl) ?_
        refine lv_imul hx hb dX12_place_34 ?_
        refine lv_topi (fun z4 ez4 => ?_)
        have qz4 := iv_mul (lo := 48) (hi := 48) ez4 (iv_k 16 (k := 16) (by decide)) bp2_c3 (by decide) (by decide) (by decide) (by decide) (by decide) (by decide) 
        rw [show (16 : Int32).toInt = 16 from rfl] at qz4
        obtain rfl : z4 = (48 : Int32) := iv_sg (k := 48) qz4.2 (by decide)
        refine lv_iload_n hx hb dX12_place_35 rfl (lv_at hl 1 rfl) ?_
        refine lv_iload_n hx hb dX12_place_36 rfl (lv_at hl 0 rfl) ?_
        refine lv_imul hx hb dX12_place_37 ?_
        refine lv_topi (fun z5 ez5 => ?_)
        have qz5 := iv_mul (lo := 0) (hi := 403) ez5 bp1 (iv_k 13 (k := 13) (by decide)) (by decide) (by decide) (by decide) (by decide) (by decide) (by decide) 
        rw [show (13 : Int32).toInt = 13 from rfl] at qz5
        refine lv_iconst (v := 3) hx hb dX12_place_38 (by decide) ?_
        refine lv_iload_n hx hb dX12_place_39 rfl (lv_at hl 2 rfl) ?_
        refine lv_imul hx hb dX12_place_40 ?_
        refine lv_topi (fun z6 ez6 => ?_)
        have qz6 := iv_mul (lo := 9) (hi := 9) ez6 (iv_k 3 (k := 3) (by decide)) bp2_c3 (by decide) (by decide) (by decide) (by decide) (by decide) (by decide) 
        rw [show (3 : Int32).toInt = 3 from rfl] at qz6
        obtain rfl : z6 = (9 : Int32) := iv_sg (k := 9) qz6.2 (by decide)
        refine lv_iadd hx hb dX12_place_41 ?_
        refine lv_topi (fun z7 ez7 => ?_)
        have qz7 := iv_add (lo := 9) (hi := 412) ez7 qz5.2 (iv_k 9 (k := 9) (by decide)) (by decide) (by decide) (by decide) (by decide) 
        rw [show (9 : Int32).toInt = 9 from rfl] at qz7
        refine lv_bipush (v := 15) hx hb dX12_place_42 (by decide) ?_
        refine lv_iand hx hb dX12_place_44 ?_
        refine lv_topi (fun z8 ez8 => ?_)
        have qz8 : 0 ≤ z8.toInt ∧ z8.toInt ≤ 15 := iv_and ez8 (k := 4) (by decide) (by decide) (by decide)
        refine lv_iadd hx hb dX12_place_45 ?_
        refine lv_topi (fun z9 ez9 => ?_)
        have qz9 := iv_add (lo := 48) (hi := 63) ez9 (iv_k 48 (k := 48) (by decide)) qz8 (by decide) (by decide) (by decide) (by decide) 
        rw [show (48 : Int32).toInt = 48 from rfl] at qz9
        subst hQ
        exact W.iret (v := z9) hx hb hr (fun t ht hW => ⟨⟨z9, (), rfl, ⟨iv_m qz9.2 (by decide) (by decide), trivial⟩, by rw [ht]; exact hP⟩, hS.F ht⟩) hS.2.2 dX12_place_46
      · have c3 := c_eq c3
        have bp2_c3 : 2 ≤ p2.toInt ∧ p2.toInt ≤ 2 := e_eq bp2_c2 (iv_k 2 (k := 2) (by decide)) c3 (by decide) (by decide)
        refine lv_bipush (v := 11) hx hb dX12_place_23 (by decide) ?_
        refine lv_goto (tgt := 30) hx hb dX12_place_25 (by decide) ?_
        refine lv_istore_n (lv' := [(2, .int 11), (0, .int p1), (1, .int p2)]) hx hb dX12_place_30 rfl hl (by decide) rfl (fun ls hl => ?_)
        refine lv_bipush (v := 16) hx hb dX12_place_31 (by decide) ?_
        refine lv_iload_n hx hb dX12_place_33 rfl (lv_at hl 2 rfl) ?_
        refine lv_imul hx hb dX12_place_34 ?_
        refine lv_topi (fun z10 ez10 => ?_)
        have qz10 := iv_mul (lo := 32) (hi := 32) ez10 (iv_k 16 (k := 16) (by decide)) bp2_c3 (by decide) (by decide) (by decide) (by decide) (by decide) (by decide) 
        rw [show (16 : Int32).toInt = 16 from rfl] at qz10
        obtain rfl : z10 = (32 : Int32) := iv_sg (k := 32) qz10.2 (by decide)
        refine lv_iload_n hx hb dX12_place_35 rfl (lv_at hl 1 rfl) ?_
        refine lv_iload_n hx hb dX12_place_36 rfl (lv_at hl 0 rfl) ?_
        refine lv_imul hx hb dX12_place_37 ?_
        refine lv_topi (fun z11 ez11 => ?_)
        have qz11 := iv_mul (lo := 0) (hi := 341) ez11 bp1 (iv_k 11 (k := 11) (by decide)) (by decide) (by decide) (by decide) (by decide) (by decide) (by decide) 
        rw [show (11 : Int32).toInt = 11 from rfl] at qz11
        refine lv_iconst (v := 3) hx hb dX12_place_38 (by decide) ?_
        refine lv_iload_n hx hb dX12_place_39 rfl (lv_at hl 2 rfl) ?_
        refine lv_imul hx hb dX12_place_40 ?_
        refine lv_topi (fun z12 ez12 => ?_)
        have qz12 := iv_mul (lo := 6) (hi := 6) ez12 (iv_k 3 (k := 3) (by decide)) bp2_c3 (by decide) (by decide) (by decide) (by decide) (by decide) (by decide) 
        rw [show (3 : Int32).toInt = 3 from rfl] at qz12
        obtain rfl : z12 = (6 : Int32) := iv_sg (k := 6) qz12.2 (by decide)
        refine lv_iadd hx hb dX12_place_41 ?_
        refine lv_topi (fun z13 ez13 => ?_)
        have qz13 := iv_add (lo := 6) (hi := 347) ez13 qz11.2 (iv_k 6 (k := 6) (by decide)) (by decide) (by decide) (by decide) (by decide) 
        rw [show (6 : Int32).toInt = 6 from rfl] at qz13
        refine lv_bipush (v := 15) hx hb dX12_place_42 (by decide) ?_
        refine lv_iand hx hb dX12_place_44 ?_
        refine lv_topi (fun z14 ez14 => ?_)
        have qz14 : 0 ≤ z14.toInt ∧ z14.toInt ≤ 15 := iv_and ez14 (k := 4) (by decide) (by decide) (by decide)
        refine lv_iadd hx hb dX12_place_45 ?_
        refine lv_topi (fun z15 ez15 => ?_)
        have qz15 := iv_add (lo := 32) (hi := 47) ez15 (iv_k 32 (k := 32) (by decide)) qz14 (by decide) (by decide) (by decide) (by decide) 
        rw [show (32 : Int32).toInt = 32 from rfl] at qz15
        subst hQ
        exact W.iret (v := z15) hx hb hr (fun t ht hW => ⟨⟨z15, (), rfl, ⟨iv_m qz15.2 (by decide) (by decide), trivial⟩, by rw [ht]; exact hP⟩, hS.F ht⟩) hS.2.2 dX12_place_46
    · have c2 := c_eq c2
      have bp2_c2 : 1 ≤ p2.toInt ∧ p2.toInt ≤ 1 := e_eq bp2_c1 (iv_k 1 (k := 1) (by decide)) c2 (by decide) (by decide)
      refine lv_bipush (v := 7) hx hb dX12_place_13 (by decide) ?_
      refine lv_goto (tgt := 30) hx hb dX12_place_15 (by decide) ?_
      refine lv_istore_n (lv' := [(2, .int 7), (0, .int p1), (1, .int p2)]) hx hb dX12_place_30 rfl hl (by decide) rfl (fun ls hl => ?_)
      refine lv_bipush (v := 16) hx hb dX12_place_31 (by decide) ?_
      refine lv_iload_n hx hb dX12_place_33 rfl (lv_at hl 2 rfl) ?_
      refine lv_imul hx hb dX12_place_34 ?_
      refine lv_topi (fun z16 ez16 => ?_)
      have qz16 := iv_mul (lo := 16) (hi := 16) ez16 (iv_k 16 (k := 16) (by decide)) bp2_c2 (by decide) (by decide) (by decide) (by decide) (by decide) (by decide) 
      rw [show (16 : Int32).toInt = 16 from rfl] at qz16
      obtain rfl : z16 = (16 : Int32) := iv_sg (k := 16) qz16.2 (by decide)
      refine lv_iload_n hx hb dX12_place_35 rfl (lv_at hl 1 rfl) ?_
      refine lv_iload_n hx hb dX12_place_36 rfl (lv_at hl 0 rfl) ?_
      refine lv_imul hx hb dX12_place_37 ?_
      refine lv_topi (fun z17 ez17 => ?_)
      have qz17 := iv_mul (lo := 0) (hi := 217) ez17 bp1 (iv_k 7 (k := 7) (by decide)) (by decide) (by decide) (by decide) (by decide) (by decide) (by decide) 
      rw [show (7 : Int32).toInt = 7 from rfl] at qz17
      refine lv_iconst (v := 3) hx hb dX12_place_38 (by decide) ?_
      refine lv_iload_n hx hb dX12_place_39 rfl (lv_at hl 2 rfl) ?_
      refine lv_imul hx hb dX12_place_40 ?_
      refine lv_topi (fun z18 ez18 => ?_)
      have qz18 := iv_mul (lo := 3) (hi := 3) ez18 (iv_k 3 (k := 3) (by decide)) bp2_c2 (by decide) (by decide) (by decide) (by decide) (by decide) (by decide) 
      rw [show (3 : Int32).toInt = 3 from rfl] at qz18
      obtain rfl : z18 = (3 : Int32) := iv_sg (k := 3) qz18.2 (by decide)
      refine lv_iadd hx hb dX12_place_41 ?_
      refine lv_topi (fun z19 ez19 => ?_)
      have qz19 := iv_add (lo := 3) (hi := 220) ez19 qz17.2 (iv_k 3 (k := 3) (by decide)) (by decide) (by decide) (by decide) (by decide) 
      rw [show (3 : Int32).toInt = 3 from rfl] at qz19
      refine lv_bipush (v := 15) hx hb dX12_place_42 (by decide) ?_
      refine lv_iand hx hb dX12_place_44 ?_
      refine lv_topi (fun z20 ez20 => ?_)
      have qz20 : 0 ≤ z20.toInt ∧ z20.toInt ≤ 15 := iv_and ez20 (k := 4) (by decide) (by decide) (by decide)
      refine lv_iadd hx hb dX12_place_45 ?_
      refine lv_topi (fun z21 ez21 => ?_)
      have qz21 := iv_add (lo := 16) (hi := 31) ez21 (iv_k 16 (k := 16) (by decide)) qz20 (by decide) (by decide) (by decide) (by decide) 
      rw [show (16 : Int32).toInt = 16 from rfl] at qz21
      subst hQ
      exact W.iret (v := z21) hx hb hr (fun t ht hW => ⟨⟨z21, (), rfl, ⟨iv_m qz21.2 (by decide) (by decide), trivial⟩, by rw [ht]; exact hP⟩, hS.F ht⟩) hS.2.2 dX12_place_46
  · have c1 := c_eq c1
    have bp2_c1 : 0 ≤ p2.toInt ∧ p2.toInt ≤ 0 := e_eq bp2 (iv_k 0 (k := 0) (by decide)) c1 (by decide) (by decide)
    refine lv_iconst (v := 5) hx hb dX12_place_4 (by decide) ?_
    refine lv_goto (tgt := 30) hx hb dX12_place_5 (by decide) ?_
    refine lv_istore_n (lv' := [(2, .int 5), (0, .int p1), (1, .int p2)]) hx hb dX12_place_30 rfl hl (by decide) rfl (fun ls hl => ?_)
    refine lv_bipush (v := 16) hx hb dX12_place_31 (by decide) ?_
    refine lv_iload_n hx hb dX12_place_33 rfl (lv_at hl 2 rfl) ?_
    refine lv_imul hx hb dX12_place_34 ?_
    refine lv_topi (fun z22 ez22 => ?_)
    have qz22 := iv_mul (lo := 0) (hi := 0) ez22 (iv_k 16 (k := 16) (by decide)) bp2_c1 (by decide) (by decide) (by decide) (by decide) (by decide) (by decide) 
    rw [show (16 : Int32).toInt = 16 from rfl] at qz22
    obtain rfl : z22 = (0 : Int32) := iv_sg (k := 0) qz22.2 (by decide)
    refine lv_iload_n hx hb dX12_place_35 rfl (lv_at hl 1 rfl) ?_
    refine lv_iload_n hx hb dX12_place_36 rfl (lv_at hl 0 rfl) ?_
    refine lv_imul hx hb dX12_place_37 ?_
    refine lv_topi (fun z23 ez23 => ?_)
    have qz23 := iv_mul (lo := 0) (hi := 155) ez23 bp1 (iv_k 5 (k := 5) (by decide)) (by decide) (by decide) (by decide) (by decide) (by decide) (by decide) 
    rw [show (5 : Int32).toInt = 5 from rfl] at qz23
    refine lv_iconst (v := 3) hx hb dX12_place_38 (by decide) ?_
    refine lv_iload_n hx hb dX12_place_39 rfl (lv_at hl 2 rfl) ?_
    refine lv_imul hx hb dX12_place_40 ?_
    refine lv_topi (fun z24 ez24 => ?_)
    have qz24 := iv_mul (lo := 0) (hi := 0) ez24 (iv_k 3 (k := 3) (by decide)) bp2_c1 (by decide) (by decide) (by decide) (by decide) (by decide) (by decide) 
    rw [show (3 : Int32).toInt = 3 from rfl] at qz24
    obtain rfl : z24 = (0 : Int32) := iv_sg (k := 0) qz24.2 (by decide)
    refine lv_iadd hx hb dX12_place_41 ?_
    refine lv_topi (fun z25 ez25 => ?_)
    have qz25 := iv_add (lo := 0) (hi := 155) ez25 qz23.2 (iv_k 0 (k := 0) (by decide)) (by decide) (by decide) (by decide) (by decide) 
    rw [show (0 : Int32).toInt = 0 from rfl] at qz25
    refine lv_bipush (v := 15) hx hb dX12_place_42 (by decide) ?_
    refine lv_iand hx hb dX12_place_44 ?_
    refine lv_topi (fun z26 ez26 => ?_)
    have qz26 : 0 ≤ z26.toInt ∧ z26.toInt ≤ 15 := iv_and ez26 (k := 4) (by decide) (by decide) (by decide)
    refine lv_iadd hx hb dX12_place_45 ?_
    refine lv_topi (fun z27 ez27 => ?_)
    have qz27 := iv_add (lo := 0) (hi := 15) ez27 (iv_k 0 (k := 0) (by decide)) qz26 (by decide) (by decide) (by decide) (by decide) 
    rw [show (0 : Int32).toInt = 0 from rfl] at qz27
    subst hQ
    exact W.iret (v := z27) hx hb hr (fun t ht hW => ⟨⟨z27, (), rfl, ⟨iv_m qz27.2 (by decide) (by decide), trivial⟩, by rw [ht]; exact hP⟩, hS.F ht⟩) hS.2.2 dX12_place_46
set_option maxHeartbeats 4000000 in
set_option maxRecDepth 100000 in
theorem kX12_stores_1 (l : Launch) (dC : Nat → ClassId) (dI : Nat → Nat → Nat) (cI cZ cC cJ cD : ClassId) (qf : Nat) (a0 a0_stored a0_version a0_logKey a0_logVersion a0_logMinute a0_logValue a0_isUnderWay a0_mirrored a0_mirrorVersion a0_size a0_cost a0_group a0_groupNumber a0_counter a0_isIn a0_inValue a0_inVersion a0_inMinute a0_inGroup a0_usedAt a0_isPromised a0_promiseValue a0_promiseMinute a0_slotKey a0_slotValue a0_slotVersion a0_slotMinute a0_slotGroup a0_slotNumber a0_wear a0_index a0_leaseKey a0_leaseMinute a0_leaseState a0_wasRead a0_leaseValue a0_leaseVersion a0_leaseRead a0_goes : Nat) (sz : Nat) (f_a0_stored : Nat → Int32) (f_a0_version : Nat → Int32) (f_a0_logKey : Nat → Int32) (f_a0_logVersion : Nat → Int32) (f_a0_logMinute : Nat → Int32) (f_a0_logValue : Nat → Int32) (f_a0_isUnderWay : Nat → Int32) (v_a0_code v_a0_minute v_a0_isDown v_a0_logged v_a0_gets v_a0_answered v_a0_uses v_a0_nextSlot v_a0_numbers v_a0_leases v_a0_hasAnswer v_a0_answerValue v_a0_answerStale v_a0_sketched p1 p2 : Int32) (rf_a0_stored : rg 0 0 32 f_a0_stored) (rf_a0_version : rg 0 0 32 f_a0_version) (rf_a0_logKey : rg 0 0 800 f_a0_logKey) (rf_a0_logVersion : rg 0 0 800 f_a0_logVersion) (rf_a0_logMinute : rg 0 0 800 f_a0_logMinute) (rf_a0_logValue : rg 0 0 800 f_a0_logValue) (rf_a0_isUnderWay : rg 0 0 800 f_a0_isUnderWay) (bv_a0_code : 0 ≤ v_a0_code.toInt ∧ v_a0_code.toInt ≤ 0) (bv_a0_minute : 0 ≤ v_a0_minute.toInt ∧ v_a0_minute.toInt ≤ 0) (bv_a0_isDown : 0 ≤ v_a0_isDown.toInt ∧ v_a0_isDown.toInt ≤ 0) (bv_a0_logged : 0 ≤ v_a0_logged.toInt ∧ v_a0_logged.toInt ≤ 0) (bv_a0_gets : 0 ≤ v_a0_gets.toInt ∧ v_a0_gets.toInt ≤ 0) (bv_a0_answered : 0 ≤ v_a0_answered.toInt ∧ v_a0_answered.toInt ≤ 0) (bv_a0_uses : 0 ≤ v_a0_uses.toInt ∧ v_a0_uses.toInt ≤ 0) (bv_a0_nextSlot : 0 ≤ v_a0_nextSlot.toInt ∧ v_a0_nextSlot.toInt ≤ 0) (bv_a0_numbers : 0 ≤ v_a0_numbers.toInt ∧ v_a0_numbers.toInt ≤ 0) (bv_a0_leases : 0 ≤ v_a0_leases.toInt ∧ v_a0_leases.toInt ≤ 0) (bv_a0_hasAnswer : 0 ≤ v_a0_hasAnswer.toInt ∧ v_a0_hasAnswer.toInt ≤ 0) (bv_a0_answerValue : 0 ≤ v_a0_answerValue.toInt ∧ v_a0_answerValue.toInt ≤ 0) (bv_a0_answerStale : 0 ≤ v_a0_answerStale.toInt ∧ v_a0_answerStale.toInt ≤ 0) (bv_a0_sketched : 0 ≤ v_a0_sketched.toInt ∧ v_a0_sketched.toInt ≤ 0) (bp1 : 0 ≤ p1.toInt ∧ p1.toInt ≤ 31) : Met l yX12_stores wsX12_stores ({ frames := 1, cells := 0, slots := 0, locals := 14 } : Room) (mPre qf [.ref a0, .int p1, .int p2] sz (dC, dI) (mT cI cZ cC cJ cD) [(a0, .inr (12, [.int v_a0_code, .int v_a0_minute, .int v_a0_isDown, .ref a0_stored, .ref a0_version, .int v_a0_logged, .ref a0_logKey, .ref a0_logVersion, .ref a0_logMinute, .ref a0_logValue, .ref a0_isUnderWay, .ref a0_mirrored, .ref a0_mirrorVersion, .ref a0_size, .ref a0_cost, .ref a0_group, .ref a0_groupNumber, .ref a0_counter, .int v_a0_gets, .int v_a0_answered, .long 0, .ref a0_isIn, .ref a0_inValue, .ref a0_inVersion, .ref a0_inMinute, .ref a0_inGroup, .ref a0_usedAt, .int v_a0_uses, .ref a0_isPromised, .ref a0_promiseValue, .ref a0_promiseMinute, .ref a0_slotKey, .ref a0_slotValue, .ref a0_slotVersion, .ref a0_slotMinute, .ref a0_slotGroup, .ref a0_slotNumber, .int v_a0_nextSlot, .int v_a0_numbers, .ref a0_wear, .ref a0_index, .int v_a0_leases, .long 0, .ref a0_leaseKey, .ref a0_leaseMinute, .ref a0_leaseState, .ref a0_wasRead, .ref a0_leaseValue, .ref a0_leaseVersion, .ref a0_leaseRead, .int v_a0_hasAnswer, .int v_a0_answerValue, .int v_a0_answerStale, .ref a0_goes, .int v_a0_sketched])), (a0_stored, .inl (cI, 32, .inl f_a0_stored)), (a0_version, .inl (cI, 32, .inl f_a0_version)), (a0_logKey, .inl (cI, 800, .inl f_a0_logKey)), (a0_logVersion, .inl (cI, 800, .inl f_a0_logVersion)), (a0_logMinute, .inl (cI, 800, .inl f_a0_logMinute)), (a0_logValue, .inl (cI, 800, .inl f_a0_logValue)), (a0_isUnderWay, .inl (cZ, 800, .inl f_a0_isUnderWay))]) (mQv (fun (u : (Int32) × (Nat → Int32) × (Nat → Int32) × (Nat → Int32) × (Nat → Int32) × (Nat → Int32) × (Nat → Int32) × (Nat → Int32)) => (1 ≤ (u.1).toInt ∧ (u.1).toInt ≤ 1) ∧ (1 ≤ ((u.2.2.1) p1.toNatClampNeg).toInt ∧ ((u.2.2.1) p1.toNatClampNeg).toInt ≤ 1) ∧ rg 0 1 32 (u.2.2.1) ∧ rg 0 31 800 (u.2.2.2.1) ∧ rg 0 1 800 (u.2.2.2.2.1) ∧ rg 0 0 800 (u.2.2.2.2.2.1) ∧ rg 0 1 800 (u.2.2.2.2.2.2.2) ∧ True) (fun (u : (Int32) × (Nat → Int32) × (Nat → Int32) × (Nat → Int32) × (Nat → Int32) × (Nat → Int32) × (Nat → Int32) × (Nat → Int32)) => [(a0, .inr (12, [.int v_a0_code, .int v_a0_minute, .int v_a0_isDown, .ref a0_stored, .ref a0_version, .int (u.1), .ref a0_logKey, .ref a0_logVersion, .ref a0_logMinute, .ref a0_logValue, .ref a0_isUnderWay, .ref a0_mirrored, .ref a0_mirrorVersion, .ref a0_size, .ref a0_cost, .ref a0_group, .ref a0_groupNumber, .ref a0_counter, .int v_a0_gets, .int v_a0_answered, .long 0, .ref a0_isIn, .ref a0_inValue, .ref a0_inVersion, .ref a0_inMinute, .ref a0_inGroup, .ref a0_usedAt, .int v_a0_uses, .ref a0_isPromised, .ref a0_promiseValue, .ref a0_promiseMinute, .ref a0_slotKey, .ref a0_slotValue, .ref a0_slotVersion, .ref a0_slotMinute, .ref a0_slotGroup, .ref a0_slotNumber, .int v_a0_nextSlot, .int v_a0_numbers, .ref a0_wear, .ref a0_index, .int v_a0_leases, .long 0, .ref a0_leaseKey, .ref a0_leaseMinute, .ref a0_leaseState, .ref a0_wasRead, .ref a0_leaseValue, .ref a0_leaseVersion, .ref a0_leaseRead, .int v_a0_hasAnswer, .int v_a0_answerValue, .int v_a0_answerStale, .ref a0_goes, .int v_a0_sketched])), (a0_stored, .inl (cI, 32, .inl (u.2.1))), (a0_version, .inl (cI, 32, .inl (u.2.2.1))), (a0_logKey, .inl (cI, 800, .inl (u.2.2.2.1))), (a0_logVersion, .inl (cI, 800, .inl (u.2.2.2.2.1))), (a0_logMinute, .inl (cI, 800, .inl (u.2.2.2.2.2.1))), (a0_logValue, .inl (cI, 800, .inl (u.2.2.2.2.2.2.1))), (a0_isUnderWay, .inl (cZ, 800, .inl (u.2.2.2.2.2.2.2)))]) (dC, dI) (va_A [(a0, .inr (12, [.int v_a0_code, .int v_a0_minute, .int v_a0_isDown, .ref a0_stored, .ref a0_version, .int v_a0_logged, .ref a0_logKey, .ref a0_logVersion, .ref a0_logMinute, .ref a0_logValue, .ref a0_isUnderWay, .ref a0_mirrored, .ref a0_mirrorVersion, .ref a0_size, .ref a0_cost, .ref a0_group, .ref a0_groupNumber, .ref a0_counter, .int v_a0_gets, .int v_a0_answered, .long 0, .ref a0_isIn, .ref a0_inValue, .ref a0_inVersion, .ref a0_inMinute, .ref a0_inGroup, .ref a0_usedAt, .int v_a0_uses, .ref a0_isPromised, .ref a0_promiseValue, .ref a0_promiseMinute, .ref a0_slotKey, .ref a0_slotValue, .ref a0_slotVersion, .ref a0_slotMinute, .ref a0_slotGroup, .ref a0_slotNumber, .int v_a0_nextSlot, .int v_a0_numbers, .ref a0_wear, .ref a0_index, .int v_a0_leases, .long 0, .ref a0_leaseKey, .ref a0_leaseMinute, .ref a0_leaseState, .ref a0_wasRead, .ref a0_leaseValue, .ref a0_leaseVersion, .ref a0_leaseRead, .int v_a0_hasAnswer, .int v_a0_answerValue, .int v_a0_answerStale, .ref a0_goes, .int v_a0_sketched])), (a0_stored, .inl (cI, 32, .inl f_a0_stored)), (a0_version, .inl (cI, 32, .inl f_a0_version)), (a0_logKey, .inl (cI, 800, .inl f_a0_logKey)), (a0_logVersion, .inl (cI, 800, .inl f_a0_logVersion)), (a0_logMinute, .inl (cI, 800, .inl f_a0_logMinute)), (a0_logValue, .inl (cI, 800, .inl f_a0_logValue)), (a0_isUnderWay, .inl (cZ, 800, .inl f_a0_isUnderWay))] sz)) 0 0 (va_A [(a0, .inr (12, [.int v_a0_code, .int v_a0_minute, .int v_a0_isDown, .ref a0_stored, .ref a0_version, .int v_a0_logged, .ref a0_logKey, .ref a0_logVersion, .ref a0_logMinute, .ref a0_logValue, .ref a0_isUnderWay, .ref a0_mirrored, .ref a0_mirrorVersion, .ref a0_size, .ref a0_cost, .ref a0_group, .ref a0_groupNumber, .ref a0_counter, .int v_a0_gets, .int v_a0_answered, .long 0, .ref a0_isIn, .ref a0_inValue, .ref a0_inVersion, .ref a0_inMinute, .ref a0_inGroup, .ref a0_usedAt, .int v_a0_uses, .ref a0_isPromised, .ref a0_promiseValue, .ref a0_promiseMinute, .ref a0_slotKey, .ref a0_slotValue, .ref a0_slotVersion, .ref a0_slotMinute, .ref a0_slotGroup, .ref a0_slotNumber, .int v_a0_nextSlot, .int v_a0_numbers, .ref a0_wear, .ref a0_index, .int v_a0_leases, .long 0, .ref a0_leaseKey, .ref a0_leaseMinute, .ref a0_leaseState, .ref a0_wasRead, .ref a0_leaseValue, .ref a0_leaseVersion, .ref a0_leaseRead, .int v_a0_hasAnswer, .int v_a0_answerValue, .int v_a0_answerStale, .ref a0_goes, .int v_a0_sketched])), (a0_stored, .inl (cI, 32, .inl f_a0_stored)), (a0_version, .inl (cI, 32, .inl f_a0_version)), (a0_logKey, .inl (cI, 800, .inl f_a0_logKey)), (a0_logVersion, .inl (cI, 800, .inl f_a0_logVersion)), (a0_logMinute, .inl (cI, 800, .inl f_a0_logMinute)), (a0_logValue, .inl (cI, 800, .inl f_a0_logValue)), (a0_isUnderWay, .inl (cZ, 800, .inl f_a0_isUnderWay))] sz) := by
  refine mMet (Qc := fun A => mQv (fun (u : (Int32) × (Nat → Int32) × (Nat → Int32) × (Nat → Int32) × (Nat → Int32) × (Nat → Int32) × (Nat → Int32) × (Nat → Int32)) => (1 ≤ (u.1).toInt ∧ (u.1).toInt ≤ 1) ∧ (1 ≤ ((u.2.2.1) p1.toNatClampNeg).toInt ∧ ((u.2.2.1) p1.toNatClampNeg).toInt ≤ 1) ∧ rg 0 1 32 (u.2.2.1) ∧ rg 0 31 800 (u.2.2.2.1) ∧ rg 0 1 800 (u.2.2.2.2.1) ∧ rg 0 0 800 (u.2.2.2.2.2.1) ∧ rg 0 1 800 (u.2.2.2.2.2.2.2) ∧ True) (fun (u : (Int32) × (Nat → Int32) × (Nat → Int32) × (Nat → Int32) × (Nat → Int32) × (Nat → Int32) × (Nat → Int32) × (Nat → Int32)) => [(a0, .inr (12, [.int v_a0_code, .int v_a0_minute, .int v_a0_isDown, .ref a0_stored, .ref a0_version, .int (u.1), .ref a0_logKey, .ref a0_logVersion, .ref a0_logMinute, .ref a0_logValue, .ref a0_isUnderWay, .ref a0_mirrored, .ref a0_mirrorVersion, .ref a0_size, .ref a0_cost, .ref a0_group, .ref a0_groupNumber, .ref a0_counter, .int v_a0_gets, .int v_a0_answered, .long 0, .ref a0_isIn, .ref a0_inValue, .ref a0_inVersion, .ref a0_inMinute, .ref a0_inGroup, .ref a0_usedAt, .int v_a0_uses, .ref a0_isPromised, .ref a0_promiseValue, .ref a0_promiseMinute, .ref a0_slotKey, .ref a0_slotValue, .ref a0_slotVersion, .ref a0_slotMinute, .ref a0_slotGroup, .ref a0_slotNumber, .int v_a0_nextSlot, .int v_a0_numbers, .ref a0_wear, .ref a0_index, .int v_a0_leases, .long 0, .ref a0_leaseKey, .ref a0_leaseMinute, .ref a0_leaseState, .ref a0_wasRead, .ref a0_leaseValue, .ref a0_leaseVersion, .ref a0_leaseRead, .int v_a0_hasAnswer, .int v_a0_answerValue, .int v_a0_answerStale, .ref a0_goes, .int v_a0_sketched])), (a0_stored, .inl (cI, 32, .inl (u.2.1))), (a0_version, .inl (cI, 32, .inl (u.2.2.1))), (a0_logKey, .inl (cI, 800, .inl (u.2.2.2.1))), (a0_logVersion, .inl (cI, 800, .inl (u.2.2.2.2.1))), (a0_logMinute, .inl (cI, 800, .inl (u.2.2.2.2.2.1))), (a0_logValue, .inl (cI, 800, .inl (u.2.2.2.2.2.2.1))), (a0_isUnderWay, .inl (cZ, 800, .inl (u.2.2.2.2.2.2.2)))]) (dC, dI) A) (own := RX12) (by decide) rfl rfl (Nat.le_of_ble_eq_true rfl) ?_
  intro p e s m args below meth c hx hb hr hts hown hml hlk A hsz hP hK hD hS hA hE ls hl Q hQ
  have hl : lv_has ls 3 [(0, .ref a0), (1, .int p1), (2, .int p2)] := hl
  have hinX12 : ∀ w ∈ u_ws RX12 TX12 55, w ∈ wsX12_stores := fun w h => List.mem_cons_of_mem _ (List.mem_append_left _ (List.mem_append_right _ h))
  refine lv_aload_n hx hb dX12_stores_0 rfl (lv_at hl 0 rfl) ?_
  refine va_get (D := (dC, dI)) (ci := 12) (v := .ref a0_version) (C := RX12) (T := TX12) (N := 55) hx hb hts hinX12 hown hK hP 0 rfl rfl 4 (by decide) (hts (.fieldLink RX12 13 "SlipstreamCacheModel" "version" "[I") (List.mem_of_getElem? (i := 1) rfl)) (fun _ h9 => h9) rfl dX12_stores_1 ?_
  refine lv_iload_n hx hb dX12_stores_4 rfl (lv_at hl 1 rfl) ?_
  refine lv_dup2_11 hx hb dX12_stores_5 rfl rfl ?_
  refine va_iald hx hb hK hP 2 0 rfl rfl (iv_in bp1 (by decide) (by decide)) dX12_stores_6 ?_
  refine lv_topi (fun z1 ez1 => ?_)
  have bz1 : 0 ≤ z1.toInt ∧ z1.toInt ≤ 0 := iv_at rf_a0_version bp1 (by decide) (by decide) ez1
  refine lv_iconst (v := 1) hx hb dX12_stores_7 (by decide) ?_
  refine lv_iadd hx hb dX12_stores_8 ?_
  refine lv_topi (fun z2 ez2 => ?_)
  have qz2 := iv_add (lo := 1) (hi := 1) ez2 bz1 (iv_k 1 (k := 1) (by decide)) (by decide) (by decide) (by decide) (by decide) 
  rw [show (1 : Int32).toInt = 1 from rfl] at qz2
  obtain rfl : z2 = (1 : Int32) := iv_sg (k := 1) qz2.2 (by decide)
  refine va_iast hx hb hK hP (hD.to rfl) hS 2 0 rfl rfl (iv_in bp1 (by decide) (by decide)) dX12_stores_9 (fun H locs hP _ hS => ?_)
  obtain ⟨f3, ef3⟩ : ∃ y, y = upd f_a0_version (p1).toNatClampNeg (1 : Int32) := ⟨_, rfl⟩
  rw [← ef3] at hP
  have rf3 : rg 0 1 32 f3 := by rw [ef3]; exact (rg.mono rf_a0_version (by decide) (by decide)).up (iv_m (iv_k 1 (k := 1) (by decide)) (by decide) (by decide))
  have tf3 : 1 ≤ (f3 (p1).toNatClampNeg).toInt ∧ (f3 (p1).toNatClampNeg).toInt ≤ 1 := by rw [ef3, pk_us]; exact (iv_k 1 (k := 1) (by decide))
  have hP : va_P (dC, dI) vqCl [(a0, .inr (12, [.int v_a0_code, .int v_a0_minute, .int v_a0_isDown, .ref a0_stored, .ref a0_version, .int v_a0_logged, .ref a0_logKey, .ref a0_logVersion, .ref a0_logMinute, .ref a0_logValue, .ref a0_isUnderWay, .ref a0_mirrored, .ref a0_mirrorVersion, .ref a0_size, .ref a0_cost, .ref a0_group, .ref a0_groupNumber, .ref a0_counter, .int v_a0_gets, .int v_a0_answered, .long 0, .ref a0_isIn, .ref a0_inValue, .ref a0_inVersion, .ref a0_inMinute, .ref a0_inGroup, .ref a0_usedAt, .int v_a0_uses, .ref a0_isPromised, .ref a0_promiseValue, .ref a0_promiseMinute, .ref a0_slotKey, .ref a0_slotValue, .ref a0_slotVersion, .ref a0_slotMinute, .ref a0_slotGroup, .ref a0_slotNumber, .int v_a0_nextSlot, .int v_a0_numbers, .ref a0_wear, .ref a0_index, .int v_a0_leases, .long 0, .ref a0_leaseKey, .ref a0_leaseMinute, .ref a0_leaseState, .ref a0_wasRead, .ref a0_leaseValue, .ref a0_leaseVersion, .ref a0_leaseRead, .int v_a0_hasAnswer, .int v_a0_answerValue, .int v_a0_answerStale, .ref a0_goes, .int v_a0_sketched])), (a0_stored, .inl (cI, 32, .inl f_a0_stored)), (a0_version, .inl (cI, 32, .inl f3)), (a0_logKey, .inl (cI, 800, .inl f_a0_logKey)), (a0_logVersion, .inl (cI, 800, .inl f_a0_logVersion)), (a0_logMinute, .inl (cI, 800, .inl f_a0_logMinute)), (a0_logValue, .inl (cI, 800, .inl f_a0_logValue)), (a0_isUnderWay, .inl (cZ, 800, .inl f_a0_isUnderWay))] H := hP
  refine lv_aload_n hx hb dX12_stores_10 rfl (lv_at hl 0 rfl) ?_
  refine va_get (D := (dC, dI)) (ci := 12) (v := .ref a0_stored) (C := RX12) (T := TX12) (N := 55) hx hb hts hinX12 hown hK hP 0 rfl rfl 3 (by decide) (hts (.fieldLink RX12 7 "SlipstreamCacheModel" "stored" "[I") (List.mem_of_getElem? (i := 2) rfl)) (fun _ h9 => h9) rfl dX12_stores_11 ?_
  refine lv_iload_n hx hb dX12_stores_14 rfl (lv_at hl 1 rfl) ?_
  refine lv_iload_n hx hb dX12_stores_15 rfl (lv_at hl 2 rfl) ?_
  refine va_iast hx hb hK hP (hD.to rfl) hS 1 0 rfl rfl (iv_in bp1 (by decide) (by decide)) dX12_stores_16 (fun H locs hP _ hS => ?_)
  obtain ⟨f4, ef4⟩ : ∃ y, y = upd f_a0_stored (p1).toNatClampNeg p2 := ⟨_, rfl⟩
  rw [← ef4] at hP
  have hP : va_P (dC, dI) vqCl [(a0, .inr (12, [.int v_a0_code, .int v_a0_minute, .int v_a0_isDown, .ref a0_stored, .ref a0_version, .int v_a0_logged, .ref a0_logKey, .ref a0_logVersion, .ref a0_logMinute, .ref a0_logValue, .ref a0_isUnderWay, .ref a0_mirrored, .ref a0_mirrorVersion, .ref a0_size, .ref a0_cost, .ref a0_group, .ref a0_groupNumber, .ref a0_counter, .int v_a0_gets, .int v_a0_answered, .long 0, .ref a0_isIn, .ref a0_inValue, .ref a0_inVersion, .ref a0_inMinute, .ref a0_inGroup, .ref a0_usedAt, .int v_a0_uses, .ref a0_isPromised, .ref a0_promiseValue, .ref a0_promiseMinute, .ref a0_slotKey, .ref a0_slotValue, .ref a0_slotVersion, .ref a0_slotMinute, .ref a0_slotGroup, .ref a0_slotNumber, .int v_a0_nextSlot, .int v_a0_numbers, .ref a0_wear, .ref a0_index, .int v_a0_leases, .long 0, .ref a0_leaseKey, .ref a0_leaseMinute, .ref a0_leaseState, .ref a0_wasRead, .ref a0_leaseValue, .ref a0_leaseVersion, .ref a0_leaseRead, .int v_a0_hasAnswer, .int v_a0_answerValue, .int v_a0_answerStale, .ref a0_goes, .int v_a0_sketched])), (a0_stored, .inl (cI, 32, .inl f4)), (a0_version, .inl (cI, 32, .inl f3)), (a0_logKey, .inl (cI, 800, .inl f_a0_logKey)), (a0_logVersion, .inl (cI, 800, .inl f_a0_logVersion)), (a0_logMinute, .inl (cI, 800, .inl f_a0_logMinute)), (a0_logValue, .inl (cI, 800, .inl f_a0_logValue)), (a0_isUnderWay, .inl (cZ, 800, .inl f_a0_isUnderWay))] H := hP
  refine lv_aload_n hx hb dX12_stores_17 rfl (lv_at hl 0 rfl) ?_
  refine va_get (D := (dC, dI)) (ci := 12) (v := .ref a0_logKey) (C := RX12) (T := TX12) (N := 55) hx hb hts hinX12 hown hK hP 0 rfl rfl 6 (by decide) (hts (.fieldLink RX12 16 "SlipstreamCacheModel" "logKey" "[I") (List.mem_of_getElem? (i := 3) rfl)) (fun _ h9 => h9) rfl dX12_stores_18 ?_
  refine lv_aload_n hx hb dX12_stores_21 rfl (lv_at hl 0 rfl) ?_
  refine va_get (D := (dC, dI)) (ci := 12) (v := .int v_a0_logged) (C := RX12) (T := TX12) (N := 55) hx hb hts hinX12 hown hK hP 0 rfl rfl 5 (by decide) (hts (.fieldLink RX12 156 "SlipstreamCacheModel" "logged" "I") (List.mem_of_getElem? (i := 4) rfl)) (fun _ h9 => h9) rfl dX12_stores_22 ?_
  refine lv_iload_n hx hb dX12_stores_25 rfl (lv_at hl 1 rfl) ?_
  refine va_iast hx hb hK hP (hD.to rfl) hS 3 0 rfl rfl (iv_in bv_a0_logged (by decide) (by decide)) dX12_stores_26 (fun H locs hP _ hS => ?_)
  obtain ⟨f5, ef5⟩ : ∃ y, y = upd f_a0_logKey (v_a0_logged).toNatClampNeg p1 := ⟨_, rfl⟩
  rw [← ef5] at hP
  have rf5 : rg 0 31 800 f5 := by rw [ef5]; exact (rg.mono rf_a0_logKey (by decide) (by decide)).up (iv_m bp1 (by decide) (by decide))
  have hP : va_P (dC, dI) vqCl [(a0, .inr (12, [.int v_a0_code, .int v_a0_minute, .int v_a0_isDown, .ref a0_stored, .ref a0_version, .int v_a0_logged, .ref a0_logKey, .ref a0_logVersion, .ref a0_logMinute, .ref a0_logValue, .ref a0_isUnderWay, .ref a0_mirrored, .ref a0_mirrorVersion, .ref a0_size, .ref a0_cost, .ref a0_group, .ref a0_groupNumber, .ref a0_counter, .int v_a0_gets, .int v_a0_answered, .long 0, .ref a0_isIn, .ref a0_inValue, .ref a0_inVersion, .ref a0_inMinute, .ref a0_inGroup, .ref a0_usedAt, .int v_a0_uses, .ref a0_isPromised, .ref a0_promiseValue, .ref a0_promiseMinute, .ref a0_slotKey, .ref a0_slotValue, .ref a0_slotVersion, .ref a0_slotMinute, .ref a0_slotGroup, .ref a0_slotNumber, .int v_a0_nextSlot, .int v_a0_numbers, .ref a0_wear, .ref a0_index, .int v_a0_leases, .long 0, .ref a0_leaseKey, .ref a0_leaseMinute, .ref a0_leaseState, .ref a0_wasRead, .ref a0_leaseValue, .ref a0_leaseVersion, .ref a0_leaseRead, .int v_a0_hasAnswer, .int v_a0_answerValue, .int v_a0_answerStale, .ref a0_goes, .int v_a0_sketched])), (a0_stored, .inl (cI, 32, .inl f4)), (a0_version, .inl (cI, 32, .inl f3)), (a0_logKey, .inl (cI, 800, .inl f5)), (a0_logVersion, .inl (cI, 800, .inl f_a0_logVersion)), (a0_logMinute, .inl (cI, 800, .inl f_a0_logMinute)), (a0_logValue, .inl (cI, 800, .inl f_a0_logValue)), (a0_isUnderWay, .inl (cZ, 800, .inl f_a0_isUnderWay))] H := hP
  refine lv_aload_n hx hb dX12_stores_27 rfl (lv_at hl 0 rfl) ?_
  refine va_get (D := (dC, dI)) (ci := 12) (v := .ref a0_logVersion) (C := RX12) (T := TX12) (N := 55) hx hb hts hinX12 hown hK hP 0 rfl rfl 7 (by decide) (hts (.fieldLink RX12 19 "SlipstreamCacheModel" "logVersion" "[I") (List.mem_of_getElem? (i := 5) rfl)) (fun _ h9 => h9) rfl dX12_stores_28 ?_
  refine lv_aload_n hx hb dX12_stores_31 rfl (lv_at hl 0 rfl) ?_
  refine va_get (D := (dC, dI)) (ci := 12) (v := .int v_a0_logged) (C := RX12) (T := TX12) (N := 55) hx hb hts hinX12 hown hK hP 0 rfl rfl 5 (by decide) (hts (.fieldLink RX12 156 "SlipstreamCacheModel" "logged" "I") (List.mem_of_getElem? (i := 4) rfl)) (fun _ h9 => h9) rfl dX12_stores_32 ?_
  refine lv_aload_n hx hb dX12_stores_35 rfl (lv_at hl 0 rfl) ?_
  refine va_get (D := (dC, dI)) (ci := 12) (v := .ref a0_version) (C := RX12) (T := TX12) (N := 55) hx hb hts hinX12 hown hK hP 0 rfl rfl 4 (by decide) (hts (.fieldLink RX12 13 "SlipstreamCacheModel" "version" "[I") (List.mem_of_getElem? (i := 1) rfl)) (fun _ h9 => h9) rfl dX12_stores_36 ?_
  refine lv_iload_n hx hb dX12_stores_39 rfl (lv_at hl 1 rfl) ?_
  refine va_iald hx hb hK hP 2 0 rfl rfl (iv_in bp1 (by decide) (by decide)) dX12_stores_40 ?_
  refine lv_topi (fun z6 ez6 => ?_)
  have bz6 : 1 ≤ z6.toInt ∧ z6.toInt ≤ 1 := by rw [ez6]; exact tf3
  refine va_iast hx hb hK hP (hD.to rfl) hS 4 0 rfl rfl (iv_in bv_a0_logged (by decide) (by decide)) dX12_stores_41 (fun H locs hP _ hS => ?_)
  obtain ⟨f7, ef7⟩ : ∃ y, y = upd f_a0_logVersion (v_a0_logged).toNatClampNeg z6 := ⟨_, rfl⟩
  rw [← ef7] at hP
  have rf7 : rg 0 1 800 f7 := by rw [ef7]; exact (rg.mono rf_a0_logVersion (by decide) (by decide)).up (iv_m bz6 (by decide) (by decide))
  have tf7 : 1 ≤ (f7 (v_a0_logged).toNatClampNeg).toInt ∧ (f7 (v_a0_logged).toNatClampNeg).toInt ≤ 1 := by rw [ef7, pk_us]; exact bz6
  have hP : va_P (dC, dI) vqCl [(a0, .inr (12, [.int v_a0_code, .int v_a0_minute, .int v_a0_isDown, .ref a0_stored, .ref a0_version, .int v_a0_logged, .ref a0_logKey, .ref a0_logVersion, .ref a0_logMinute, .ref a0_logValue, .ref a0_isUnderWay, .ref a0_mirrored, .ref a0_mirrorVersion, .ref a0_size, .ref a0_cost, .ref a0_group, .ref a0_groupNumber, .ref a0_counter, .int v_a0_gets, .int v_a0_answered, .long 0, .ref a0_isIn, .ref a0_inValue, .ref a0_inVersion, .ref a0_inMinute, .ref a0_inGroup, .ref a0_usedAt, .int v_a0_uses, .ref a0_isPromised, .ref a0_promiseValue, .ref a0_promiseMinute, .ref a0_slotKey, .ref a0_slotValue, .ref a0_slotVersion, .ref a0_slotMinute, .ref a0_slotGroup, .ref a0_slotNumber, .int v_a0_nextSlot, .int v_a0_numbers, .ref a0_wear, .ref a0_index, .int v_a0_leases, .long 0, .ref a0_leaseKey, .ref a0_leaseMinute, .ref a0_leaseState, .ref a0_wasRead, .ref a0_leaseValue, .ref a0_leaseVersion, .ref a0_leaseRead, .int v_a0_hasAnswer, .int v_a0_answerValue, .int v_a0_answerStale, .ref a0_goes, .int v_a0_sketched])), (a0_stored, .inl (cI, 32, .inl f4)), (a0_version, .inl (cI, 32, .inl f3)), (a0_logKey, .inl (cI, 800, .inl f5)), (a0_logVersion, .inl (cI, 800, .inl f7)), (a0_logMinute, .inl (cI, 800, .inl f_a0_logMinute)), (a0_logValue, .inl (cI, 800, .inl f_a0_logValue)), (a0_isUnderWay, .inl (cZ, 800, .inl f_a0_isUnderWay))] H := hP
  refine lv_aload_n hx hb dX12_stores_42 rfl (lv_at hl 0 rfl) ?_
  refine va_get (D := (dC, dI)) (ci := 12) (v := .ref a0_logMinute) (C := RX12) (T := TX12) (N := 55) hx hb hts hinX12 hown hK hP 0 rfl rfl 8 (by decide) (hts (.fieldLink RX12 22 "SlipstreamCacheModel" "logMinute" "[I") (List.mem_of_getElem? (i := 6) rfl)) (fun _ h9 => h9) rfl dX12_stores_43 ?_
  refine lv_aload_n hx hb dX12_stores_46 rfl (lv_at hl 0 rfl) ?_
  refine va_get (D := (dC, dI)) (ci := 12) (v := .int v_a0_logged) (C := RX12) (T := TX12) (N := 55) hx hb hts hinX12 hown hK hP 0 rfl rfl 5 (by decide) (hts (.fieldLink RX12 156 "SlipstreamCacheModel" "logged" "I") (List.mem_of_getElem? (i := 4) rfl)) (fun _ h9 => h9) rfl dX12_stores_47 ?_
  refine lv_aload_n hx hb dX12_stores_50 rfl (lv_at hl 0 rfl) ?_
  refine va_get (D := (dC, dI)) (ci := 12) (v := .int v_a0_minute) (C := RX12) (T := TX12) (N := 55) hx hb hts hinX12 hown hK hP 0 rfl rfl 1 (by decide) (hts (.fieldLink RX12 159 "SlipstreamCacheModel" "minute" "I") (List.mem_of_getElem? (i := 7) rfl)) (fun _ h9 => h9) rfl dX12_stores_51 ?_
  refine va_iast hx hb hK hP (hD.to rfl) hS 5 0 rfl rfl (iv_in bv_a0_logged (by decide) (by decide)) dX12_stores_54 (fun H locs hP _ hS => ?_)
  obtain ⟨f8, ef8⟩ : ∃ y, y = upd f_a0_logMinute (v_a0_logged).toNatClampNeg v_a0_minute := ⟨_, rfl⟩
  rw [← ef8] at hP
  have rf8 : rg 0 0 800 f8 := by rw [ef8]; exact (rg.mono rf_a0_logMinute (by decide) (by decide)).up (iv_m bv_a0_minute (by decide) (by decide))
  have hP : va_P (dC, dI) vqCl [(a0, .inr (12, [.int v_a0_code, .int v_a0_minute, .int v_a0_isDown, .ref a0_stored, .ref a0_version, .int v_a0_logged, .ref a0_logKey, .ref a0_logVersion, .ref a0_logMinute, .ref a0_logValue, .ref a0_isUnderWay, .ref a0_mirrored, .ref a0_mirrorVersion, .ref a0_size, .ref a0_cost, .ref a0_group, .ref a0_groupNumber, .ref a0_counter, .int v_a0_gets, .int v_a0_answered, .long 0, .ref a0_isIn, .ref a0_inValue, .ref a0_inVersion, .ref a0_inMinute, .ref a0_inGroup, .ref a0_usedAt, .int v_a0_uses, .ref a0_isPromised, .ref a0_promiseValue, .ref a0_promiseMinute, .ref a0_slotKey, .ref a0_slotValue, .ref a0_slotVersion, .ref a0_slotMinute, .ref a0_slotGroup, .ref a0_slotNumber, .int v_a0_nextSlot, .int v_a0_numbers, .ref a0_wear, .ref a0_index, .int v_a0_leases, .long 0, .ref a0_leaseKey, .ref a0_leaseMinute, .ref a0_leaseState, .ref a0_wasRead, .ref a0_leaseValue, .ref a0_leaseVersion, .ref a0_leaseRead, .int v_a0_hasAnswer, .int v_a0_answerValue, .int v_a0_answerStale, .ref a0_goes, .int v_a0_sketched])), (a0_stored, .inl (cI, 32, .inl f4)), (a0_version, .inl (cI, 32, .inl f3)), (a0_logKey, .inl (cI, 800, .inl f5)), (a0_logVersion, .inl (cI, 800, .inl f7)), (a0_logMinute, .inl (cI, 800, .inl f8)), (a0_logValue, .inl (cI, 800, .inl f_a0_logValue)), (a0_isUnderWay, .inl (cZ, 800, .inl f_a0_isUnderWay))] H := hP
  refine lv_aload_n hx hb dX12_stores_55 rfl (lv_at hl 0 rfl) ?_
  refine va_get (D := (dC, dI)) (ci := 12) (v := .ref a0_logValue) (C := RX12) (T := TX12) (N := 55) hx hb hts hinX12 hown hK hP 0 rfl rfl 9 (by decide) (hts (.fieldLink RX12 25 "SlipstreamCacheModel" "logValue" "[I") (List.mem_of_getElem? (i := 8) rfl)) (fun _ h9 => h9) rfl dX12_stores_56 ?_
  refine lv_aload_n hx hb dX12_stores_59 rfl (lv_at hl 0 rfl) ?_
  refine va_get (D := (dC, dI)) (ci := 12) (v := .int v_a0_logged) (C := RX12) (T := TX12) (N := 55) hx hb hts hinX12 hown hK hP 0 rfl rfl 5 (by decide) (hts (.fieldLink RX12 156 "SlipstreamCacheModel" "logged" "I") (List.mem_of_getElem? (i := 4) rfl)) (fun _ h9 => h9) rfl dX12_stores_60 ?_
  refine lv_iload_n hx hb dX12_stores_63 rfl (lv_at hl 2 rfl) ?_
  refine va_iast hx hb hK hP (hD.to rfl) hS 6 0 rfl rfl (iv_in bv_a0_logged (by decide) (by decide)) dX12_stores_64 (fun H locs hP _ hS => ?_)
  obtain ⟨f9, ef9⟩ : ∃ y, y = upd f_a0_logValue (v_a0_logged).toNatClampNeg p2 := ⟨_, rfl⟩
  rw [← ef9] at hP
  have hP : va_P (dC, dI) vqCl [(a0, .inr (12, [.int v_a0_code, .int v_a0_minute, .int v_a0_isDown, .ref a0_stored, .ref a0_version, .int v_a0_logged, .ref a0_logKey, .ref a0_logVersion, .ref a0_logMinute, .ref a0_logValue, .ref a0_isUnderWay, .ref a0_mirrored, .ref a0_mirrorVersion, .ref a0_size, .ref a0_cost, .ref a0_group, .ref a0_groupNumber, .ref a0_counter, .int v_a0_gets, .int v_a0_answered, .long 0, .ref a0_isIn, .ref a0_inValue, .ref a0_inVersion, .ref a0_inMinute, .ref a0_inGroup, .ref a0_usedAt, .int v_a0_uses, .ref a0_isPromised, .ref a0_promiseValue, .ref a0_promiseMinute, .ref a0_slotKey, .ref a0_slotValue, .ref a0_slotVersion, .ref a0_slotMinute, .ref a0_slotGroup, .ref a0_slotNumber, .int v_a0_nextSlot, .int v_a0_numbers, .ref a0_wear, .ref a0_index, .int v_a0_leases, .long 0, .ref a0_leaseKey, .ref a0_leaseMinute, .ref a0_leaseState, .ref a0_wasRead, .ref a0_leaseValue, .ref a0_leaseVersion, .ref a0_leaseRead, .int v_a0_hasAnswer, .int v_a0_answerValue, .int v_a0_answerStale, .ref a0_goes, .int v_a0_sketched])), (a0_stored, .inl (cI, 32, .inl f4)), (a0_version, .inl (cI, 32, .inl f3)), (a0_logKey, .inl (cI, 800, .inl f5)), (a0_logVersion, .inl (cI, 800, .inl f7)), (a0_logMinute, .inl (cI, 800, .inl f8)), (a0_logValue, .inl (cI, 800, .inl f9)), (a0_isUnderWay, .inl (cZ, 800, .inl f_a0_isUnderWay))] H := hP
  refine lv_aload_n hx hb dX12_stores_65 rfl (lv_at hl 0 rfl) ?_
  refine va_get (D := (dC, dI)) (ci := 12) (v := .ref a0_isUnderWay) (C := RX12) (T := TX12) (N := 55) hx hb hts hinX12 hown hK hP 0 rfl rfl 10 (by decide) (hts (.fieldLink RX12 28 "SlipstreamCacheModel" "isUnderWay" "[Z") (List.mem_of_getElem? (i := 9) rfl)) (fun _ h9 => h9) rfl dX12_stores_66 ?_
  refine lv_aload_n hx hb dX12_stores_69 rfl (lv_at hl 0 rfl) ?_
  refine va_get (D := (dC, dI)) (ci := 12) (v := .int v_a0_logged) (C := RX12) (T := TX12) (N := 55) hx hb hts hinX12 hown hK hP 0 rfl rfl 5 (by decide) (hts (.fieldLink RX12 156 "SlipstreamCacheModel" "logged" "I") (List.mem_of_getElem? (i := 4) rfl)) (fun _ h9 => h9) rfl dX12_stores_70 ?_
  refine lv_iconst (v := 1) hx hb dX12_stores_73 (by decide) ?_
  refine va_zast hx hb hK hP (hD.to rfl) hS 7 1 rfl rfl (iv_in bv_a0_logged (by decide) (by decide)) dX12_stores_74 (fun H locs hP _ hS => ?_)
  rw [nar_bz (iv_k 1 (k := 1) (by decide)) (by decide) (by decide)] at hP
  obtain ⟨f10, ef10⟩ : ∃ y, y = upd f_a0_isUnderWay (v_a0_logged).toNatClampNeg (1 : Int32) := ⟨_, rfl⟩
  rw [← ef10] at hP
  have rf10 : rg 0 1 800 f10 := by rw [ef10]; exact (rg.mono rf_a0_isUnderWay (by decide) (by decide)).up (iv_m (iv_k 1 (k := 1) (by decide)) (by decide) (by decide))
  have tf10 : 1 ≤ (f10 (v_a0_logged).toNatClampNeg).toInt ∧ (f10 (v_a0_logged).toNatClampNeg).toInt ≤ 1 := by rw [ef10, pk_us]; exact (iv_k 1 (k := 1) (by decide))
  have hP : va_P (dC, dI) vqCl [(a0, .inr (12, [.int v_a0_code, .int v_a0_minute, .int v_a0_isDown, .ref a0_stored, .ref a0_version, .int v_a0_logged, .ref a0_logKey, .ref a0_logVersion, .ref a0_logMinute, .ref a0_logValue, .ref a0_isUnderWay, .ref a0_mirrored, .ref a0_mirrorVersion, .ref a0_size, .ref a0_cost, .ref a0_group, .ref a0_groupNumber, .ref a0_counter, .int v_a0_gets, .int v_a0_answered, .long 0, .ref a0_isIn, .ref a0_inValue, .ref a0_inVersion, .ref a0_inMinute, .ref a0_inGroup, .ref a0_usedAt, .int v_a0_uses, .ref a0_isPromised, .ref a0_promiseValue, .ref a0_promiseMinute, .ref a0_slotKey, .ref a0_slotValue, .ref a0_slotVersion, .ref a0_slotMinute, .ref a0_slotGroup, .ref a0_slotNumber, .int v_a0_nextSlot, .int v_a0_numbers, .ref a0_wear, .ref a0_index, .int v_a0_leases, .long 0, .ref a0_leaseKey, .ref a0_leaseMinute, .ref a0_leaseState, .ref a0_wasRead, .ref a0_leaseValue, .ref a0_leaseVersion, .ref a0_leaseRead, .int v_a0_hasAnswer, .int v_a0_answerValue, .int v_a0_answerStale, .ref a0_goes, .int v_a0_sketched])), (a0_stored, .inl (cI, 32, .inl f4)), (a0_version, .inl (cI, 32, .inl f3)), (a0_logKey, .inl (cI, 800, .inl f5)), (a0_logVersion, .inl (cI, 800, .inl f7)), (a0_logMinute, .inl (cI, 800, .inl f8)), (a0_logValue, .inl (cI, 800, .inl f9)), (a0_isUnderWay, .inl (cZ, 800, .inl f10))] H := hP
  refine lv_aload_n hx hb dX12_stores_75 rfl (lv_at hl 0 rfl) ?_
  refine lv_dup hx hb dX12_stores_76 rfl ?_
  refine va_get (D := (dC, dI)) (ci := 12) (v := .int v_a0_logged) (C := RX12) (T := TX12) (N := 55) hx hb hts hinX12 hown hK hP 0 rfl rfl 5 (by decide) (hts (.fieldLink RX12 156 "SlipstreamCacheModel" "logged" "I") (List.mem_of_getElem? (i := 4) rfl)) (fun _ h9 => h9) rfl dX12_stores_77 ?_
  refine lv_iconst (v := 1) hx hb dX12_stores_80 (by decide) ?_
  refine lv_iadd hx hb dX12_stores_81 ?_
  refine lv_topi (fun z11 ez11 => ?_)
  have qz11 := iv_add (lo := 1) (hi := 1) ez11 bv_a0_logged (iv_k 1 (k := 1) (by decide)) (by decide) (by decide) (by decide) (by decide) 
  rw [show (1 : Int32).toInt = 1 from rfl] at qz11
  obtain rfl : z11 = (1 : Int32) := iv_sg (k := 1) qz11.2 (by decide)
  refine va_put (D := (dC, dI)) (ci := 12) (v := .int 1) (ty := .int) (C := RX12) (T := TX12) (N := 55) hx hb hts hinX12 tyX12 tyX12_ok nmX12 hown hK hP (hD.to rfl) hS 0 rfl rfl 5 (by decide) (hts (.fieldLink RX12 156 "SlipstreamCacheModel" "logged" "I") (List.mem_of_getElem? (i := 4) rfl)) (fun _ h9 => h9) rfl (by decide +kernel) rfl rfl (Nat.le_of_ble_eq_true rfl) dX12_stores_82 (fun H locs hP _ hS => ?_)
  have hP : va_P (dC, dI) vqCl [(a0, .inr (12, [.int v_a0_code, .int v_a0_minute, .int v_a0_isDown, .ref a0_stored, .ref a0_version, .int 1, .ref a0_logKey, .ref a0_logVersion, .ref a0_logMinute, .ref a0_logValue, .ref a0_isUnderWay, .ref a0_mirrored, .ref a0_mirrorVersion, .ref a0_size, .ref a0_cost, .ref a0_group, .ref a0_groupNumber, .ref a0_counter, .int v_a0_gets, .int v_a0_answered, .long 0, .ref a0_isIn, .ref a0_inValue, .ref a0_inVersion, .ref a0_inMinute, .ref a0_inGroup, .ref a0_usedAt, .int v_a0_uses, .ref a0_isPromised, .ref a0_promiseValue, .ref a0_promiseMinute, .ref a0_slotKey, .ref a0_slotValue, .ref a0_slotVersion, .ref a0_slotMinute, .ref a0_slotGroup, .ref a0_slotNumber, .int v_a0_nextSlot, .int v_a0_numbers, .ref a0_wear, .ref a0_index, .int v_a0_leases, .long 0, .ref a0_leaseKey, .ref a0_leaseMinute, .ref a0_leaseState, .ref a0_wasRead, .ref a0_leaseValue, .ref a0_leaseVersion, .ref a0_leaseRead, .int v_a0_hasAnswer, .int v_a0_answerValue, .int v_a0_answerStale, .ref a0_goes, .int v_a0_sketched])), (a0_stored, .inl (cI, 32, .inl f4)), (a0_version, .inl (cI, 32, .inl f3)), (a0_logKey, .inl (cI, 800, .inl f5)), (a0_logVersion, .inl (cI, 800, .inl f7)), (a0_logMinute, .inl (cI, 800, .inl f8)), (a0_logValue, .inl (cI, 800, .inl f9)), (a0_isUnderWay, .inl (cZ, 800, .inl f10))] H := hP
  subst hQ
  exact W.vret hx hb hr (fun t ht hW => ⟨⟨((1 : Int32), f4, f3, f5, f7, f8, f9, f10), rfl, ⟨iv_m (iv_k 1 (k := 1) (by decide)) (by decide) (by decide), iv_m tf3 (by decide) (by decide), rg.mono rf3 (by decide) (by decide), rg.mono rf5 (by decide) (by decide), rg.mono rf7 (by decide) (by decide), rg.mono rf8 (by decide) (by decide), rg.mono rf10 (by decide) (by decide), trivial⟩, by rw [ht]; exact hP⟩, hS.F ht⟩) hS.2.2 dX12_stores_85
set_option maxHeartbeats 4000000 in
set_option maxRecDepth 100000 in
theorem kX6_entries_1 (l : Launch) (dC : Nat → ClassId) (dI : Nat → Nat → Nat) (cI cZ cC cJ cD : ClassId) (qf : Nat) (a0 a0_copies a0_present a0_usedAt : Nat) (sz : Nat) (f_a0_present : Nat → Int32) (v_a0_uses v_a0_filled : Int32) (rf_a0_present : rg 0 0 32 f_a0_present) (bv_a0_uses : 0 ≤ v_a0_uses.toInt ∧ v_a0_uses.toInt ≤ 0) (bv_a0_filled : 0 ≤ v_a0_filled.toInt ∧ v_a0_filled.toInt ≤ 0) : Met l yX6_entries wsX6_entries ({ frames := 1, cells := 0, slots := 0, locals := 14 } : Room) (mPre qf [.ref a0] sz (dC, dI) (mT cI cZ cC cJ cD) [(a0, .inr (6, [.ref a0_copies, .ref a0_present, .ref a0_usedAt, .int v_a0_uses, .int v_a0_filled])), (a0_present, .inl (cZ, 32, .inl f_a0_present))]) (mQi (fun (r : Int32) (u : Unit) => (0 ≤ r.toInt ∧ r.toInt ≤ 0) ∧ True) (fun (u : Unit) => [(a0, .inr (6, [.ref a0_copies, .ref a0_present, .ref a0_usedAt, .int v_a0_uses, .int v_a0_filled])), (a0_present, .inl (cZ, 32, .inl f_a0_present))]) (dC, dI) (va_A [(a0, .inr (6, [.ref a0_copies, .ref a0_present, .ref a0_usedAt, .int v_a0_uses, .int v_a0_filled])), (a0_present, .inl (cZ, 32, .inl f_a0_present))] sz)) 0 0 (va_A [(a0, .inr (6, [.ref a0_copies, .ref a0_present, .ref a0_usedAt, .int v_a0_uses, .int v_a0_filled])), (a0_present, .inl (cZ, 32, .inl f_a0_present))] sz) := by
  refine mMet (Qc := fun A => mQi (fun (r : Int32) (u : Unit) => (0 ≤ r.toInt ∧ r.toInt ≤ 0) ∧ True) (fun (u : Unit) => [(a0, .inr (6, [.ref a0_copies, .ref a0_present, .ref a0_usedAt, .int v_a0_uses, .int v_a0_filled])), (a0_present, .inl (cZ, 32, .inl f_a0_present))]) (dC, dI) A) (own := RX6) (by decide) rfl rfl (Nat.le_of_ble_eq_true rfl) ?_
  intro p e s m args below meth c hx hb hr hts hown hml hlk A hsz hP hK hD hS hA hE ls hl Q hQ
  have hl : lv_has ls 3 [(0, .ref a0)] := hl
  have hinX6 : ∀ w ∈ u_ws RX6 TX6 5, w ∈ wsX6_entries := fun w h => List.mem_cons_of_mem _ (List.mem_append_left _ (List.mem_append_right _ h))
  refine lv_iconst (v := 0) hx hb dX6_entries_0 (by decide) ?_
  refine lv_istore_n (lv' := [(1, .int 0), (0, .ref a0)]) hx hb dX6_entries_1 rfl hl (by decide) rfl (fun ls hl => ?_)
  refine lv_iconst (v := 0) hx hb dX6_entries_2 (by decide) ?_
  refine lv_istore_n (lv' := [(2, .int 0), (1, .int 0), (0, .ref a0)]) hx hb dX6_entries_3 rfl hl (by decide) rfl (fun ls hl => ?_)
  have L4_0 : ∀ (n : Nat) (k4_2 : Int32), (0 ≤ k4_2.toInt ∧ k4_2.toInt ≤ 32) → (32 + 1 - k4_2.toInt).toNat < n → ∀ (H : Heap) (locs : List Loc), va_P (dC, dI) vqCl [(a0, .inr (6, [.ref a0_copies, .ref a0_present, .ref a0_usedAt, .int v_a0_uses, .int v_a0_filled])), (a0_present, .inl (cZ, 32, .inl f_a0_present))] H → va_S A s.heap H locs → ∀ ls : Array Slot, lv_has ls 3 [(2, .int k4_2), (1, .int 0), (0, .ref a0)] → W p l e ({ frames := 1, cells := 0, slots := 0, locals := 14 } : Room) s m args below meth c H locs 0 0 Q (F0 m 4 ls []) := by
    intro n
    induction n with
    | zero =>
      intro k4_2 bk4_2 hm
      exact absurd hm (Nat.not_lt_zero _)
    | succ n ih =>
      intro k4_2 bk4_2 hm H locs hP hS ls hl
      refine lv_iload_n hx hb dX6_entries_4 rfl (lv_at hl 0 rfl) ?_
      refine lv_bipush (v := 32) hx hb dX6_entries_5 (by decide) ?_
      refine lv_icmp_ge (tgt := 33) hx hb dX6_entries_7 (by decide) (fun c2 => ?_) (fun c2 => ?_)
      · have c2 := c_le c2
        have bk4_2_c2 : 32 ≤ k4_2.toInt ∧ k4_2.toInt ≤ 32 := l_le bk4_2 (iv_k 32 (k := 32) (by decide)) c2 (by decide) (by decide)
        refine lv_iload_n hx hb dX6_entries_33 rfl (lv_at hl 1 rfl) ?_
        subst hQ
        exact W.iret (v := (0 : Int32)) hx hb hr (fun t ht hW => ⟨⟨(0 : Int32), (), rfl, ⟨iv_m (iv_k 0 (k := 0) (by decide)) (by decide) (by decide), trivial⟩, by rw [ht]; exact hP⟩, hS.F ht⟩) hS.2.2 dX6_entries_34
      · have c2 := c_nle c2
        have bk4_2_c2 : 0 ≤ k4_2.toInt ∧ k4_2.toInt ≤ 31 := u_lt bk4_2 (iv_k 32 (k := 32) (by decide)) c2 (by decide) (by decide)
        refine lv_iload_n hx hb dX6_entries_10 rfl (lv_at hl 1 rfl) ?_
        refine lv_aload_n hx hb dX6_entries_11 rfl (lv_at hl 2 rfl) ?_
        refine va_get (D := (dC, dI)) (ci := 6) (v := .ref a0_present) (C := RX6) (T := TX6) (N := 5) hx hb hts hinX6 hown hK hP 0 rfl rfl 1 (by decide) (hts (.fieldLink RX6 20 "SlipstreamCache$Memory" "present" "[Z") (List.mem_of_getElem? (i := 1) rfl)) (fun _ h9 => h9) rfl dX6_entries_12 ?_
        refine lv_iload_n hx hb dX6_entries_15 rfl (lv_at hl 0 rfl) ?_
        refine va_zald hx hb hK hP 1 1 rfl rfl (iv_in bk4_2_c2 (by decide) (by decide)) dX6_entries_16 ?_
        refine lv_topi (fun z3 ez3 => ?_)
        have bz3 : 0 ≤ z3.toInt ∧ z3.toInt ≤ 0 := iv_at rf_a0_present bk4_2_c2 (by decide) (by decide) ez3
        refine lv_if_eq (tgt := 24) hx hb dX6_entries_17 (by decide) (fun c4 => ?_) (fun c => (z_ne bz3 (iv_k 0 (k := 0) (by decide)) (c_ne c) (by decide)).elim)
        have c4 := c_eq c4
        refine lv_iconst (v := 0) hx hb dX6_entries_24 (by decide) ?_
        refine lv_iadd hx hb dX6_entries_25 ?_
        refine lv_topi (fun z5 ez5 => ?_)
        have qz5 := iv_add (lo := 0) (hi := 0) ez5 (iv_k 0 (k := 0) (by decide)) (iv_k 0 (k := 0) (by decide)) (by decide) (by decide) (by decide) (by decide) 
        rw [show (0 : Int32).toInt = 0 from rfl] at qz5
        rw [show (0 : Int32).toInt = 0 from rfl] at qz5
        obtain rfl : z5 = (0 : Int32) := iv_sg (k := 0) qz5.2 (by decide)
        refine lv_istore_n (lv' := [(1, .int 0), (2, .int k4_2), (0, .ref a0)]) hx hb dX6_entries_26 rfl hl (by decide) rfl (fun ls hl => ?_)
        obtain ⟨z6, ez6⟩ : ∃ y : Int32, y = k4_2 + 1 := ⟨_, rfl⟩
        refine lv_iinc (v := z6) (lv' := [(2, .int z6), (1, .int 0), (0, .ref a0)]) hx hb dX6_entries_27 hl (k := 1) rfl (by rw [ez6]; rfl) (by decide) rfl (fun ls hl => ?_)
        have qz6 := iv_add (lo := 1) (hi := 32) ez6 bk4_2_c2 (iv_k 1 (k := 1) (by decide)) (by decide) (by decide) (by decide) (by decide)
        rw [show (1 : Int32).toInt = 1 from rfl] at qz6
        refine lv_goto (tgt := 4) hx hb dX6_entries_30 (by decide) ?_
        exact ih z6 (iv_m qz6.2 (by decide) (by decide)) (by omega) _ _ hP hS ls (lv_sub hl [0, 1, 2] rfl)
  exact L4_0 _ (0 : Int32) (iv_m (iv_k 0 (k := 0) (by decide)) (by decide) (by decide)) (Nat.lt_succ_self _) _ _ hP hS ls (lv_sub hl [0, 1, 2] rfl)
set_option maxHeartbeats 4000000 in
set_option maxRecDepth 100000 in
theorem kX3_loseIndex_1 (l : Launch) (dC : Nat → ClassId) (dI : Nat → Nat → Nat) (cI cZ cC cJ cD : ClassId) (qf : Nat) (a0 a0_copies a0_signs a0_index a0_wears : Nat) (sz : Nat) (f_a0_index : Nat → Int32) (v_a0_next : Int32) (rf_a0_index : rg (-1) (-1) 32 f_a0_index) (bv_a0_next : 0 ≤ v_a0_next.toInt ∧ v_a0_next.toInt ≤ 0) : Met l yX3_loseIndex wsX3_loseIndex ({ frames := 1, cells := 0, slots := 0, locals := 13 } : Room) (mPre qf [.ref a0] sz (dC, dI) (mT cI cZ cC cJ cD) [(a0, .inr (3, [.ref a0_copies, .ref a0_signs, .ref a0_index, .ref a0_wears, .int v_a0_next])), (a0_index, .inl (cI, 32, .inl f_a0_index))]) (mQv (fun (u : (Nat → Int32)) => rg (-1) (-1) 32 (u) ∧ True) (fun (u : (Nat → Int32)) => [(a0, .inr (3, [.ref a0_copies, .ref a0_signs, .ref a0_index, .ref a0_wears, .int v_a0_next])), (a0_index, .inl (cI, 32, .inl (u)))]) (dC, dI) (va_A [(a0, .inr (3, [.ref a0_copies, .ref a0_signs, .ref a0_index, .ref a0_wears, .int v_a0_next])), (a0_index, .inl (cI, 32, .inl f_a0_index))] sz)) 0 0 (va_A [(a0, .inr (3, [.ref a0_copies, .ref a0_signs, .ref a0_index, .ref a0_wears, .int v_a0_next])), (a0_index, .inl (cI, 32, .inl f_a0_index))] sz) := by
  refine mMet (Qc := fun A => mQv (fun (u : (Nat → Int32)) => rg (-1) (-1) 32 (u) ∧ True) (fun (u : (Nat → Int32)) => [(a0, .inr (3, [.ref a0_copies, .ref a0_signs, .ref a0_index, .ref a0_wears, .int v_a0_next])), (a0_index, .inl (cI, 32, .inl (u)))]) (dC, dI) A) (own := RX3) (by decide) rfl rfl (Nat.le_of_ble_eq_true rfl) ?_
  intro p e s m args below meth c hx hb hr hts hown hml hlk A hsz hP hK hD hS hA hE ls hl Q hQ
  have hl : lv_has ls 2 [(0, .ref a0)] := hl
  have hinX3 : ∀ w ∈ u_ws RX3 TX3 5, w ∈ wsX3_loseIndex := fun w h => List.mem_cons_of_mem _ (List.mem_append_left _ (List.mem_append_right _ h))
  refine lv_iconst (v := 0) hx hb dX3_loseIndex_0 (by decide) ?_
  refine lv_istore_n (lv' := [(1, .int 0), (0, .ref a0)]) hx hb dX3_loseIndex_1 rfl hl (by decide) rfl (fun ls hl => ?_)
  have L2_0 : ∀ (n : Nat) (k2_1 : Int32) (f2_a0_index : Nat → Int32), (0 ≤ k2_1.toInt ∧ k2_1.toInt ≤ 32) → (rg (-1) (-1) 32 f2_a0_index) → (∀ j : Nat, (j : Int) < k2_1.toInt → (f2_a0_index j).toInt = (-1)) → (32 + 1 - k2_1.toInt).toNat < n → ∀ (H : Heap) (locs : List Loc), va_P (dC, dI) vqCl [(a0, .inr (3, [.ref a0_copies, .ref a0_signs, .ref a0_index, .ref a0_wears, .int v_a0_next])), (a0_index, .inl (cI, 32, .inl f2_a0_index))] H → va_S A s.heap H locs → ∀ ls : Array Slot, lv_has ls 2 [(1, .int k2_1), (0, .ref a0)] → W p l e ({ frames := 1, cells := 0, slots := 0, locals := 13 } : Room) s m args below meth c H locs 0 0 Q (F0 m 2 ls []) := by
    intro n
    induction n with
    | zero =>
      intro k2_1 f2_a0_index bk2_1 rf2_a0_index pf2_a0_index hm
      exact absurd hm (Nat.not_lt_zero _)
    | succ n ih =>
      intro k2_1 f2_a0_index bk2_1 rf2_a0_index pf2_a0_index hm H locs hP hS ls hl
      refine lv_iload_n hx hb dX3_loseIndex_2 rfl (lv_at hl 0 rfl) ?_
      refine lv_bipush (v := 32) hx hb dX3_loseIndex_3 (by decide) ?_
      refine lv_icmp_ge (tgt := 21) hx hb dX3_loseIndex_5 (by decide) (fun c2 => ?_) (fun c2 => ?_)
      · have c2 := c_le c2
        have bk2_1_c2 : 32 ≤ k2_1.toInt ∧ k2_1.toInt ≤ 32 := l_le bk2_1 (iv_k 32 (k := 32) (by decide)) c2 (by decide) (by decide)
        have rf2_a0_index_c2 : rg (-1) (-1) 32 f2_a0_index := fun j hj => by have h9 := pf2_a0_index j (by omega); omega
        subst hQ
        exact W.vret hx hb hr (fun t ht hW => ⟨⟨(f2_a0_index), rfl, ⟨rg.mono rf2_a0_index_c2 (by decide) (by decide), trivial⟩, by rw [ht]; exact hP⟩, hS.F ht⟩) hS.2.2 dX3_loseIndex_21
      · have c2 := c_nle c2
        have bk2_1_c2 : 0 ≤ k2_1.toInt ∧ k2_1.toInt ≤ 31 := u_lt bk2_1 (iv_k 32 (k := 32) (by decide)) c2 (by decide) (by decide)
        refine lv_aload_n hx hb dX3_loseIndex_8 rfl (lv_at hl 1 rfl) ?_
        refine va_get (D := (dC, dI)) (ci := 3) (v := .ref a0_index) (C := RX3) (T := TX3) (N := 5) hx hb hts hinX3 hown hK hP 0 rfl rfl 2 (by decide) (hts (.fieldLink RX3 24 "SlipstreamCache$Flash" "index" "[I") (List.mem_of_getElem? (i := 1) rfl)) (fun _ h9 => h9) rfl dX3_loseIndex_9 ?_
        refine lv_iload_n hx hb dX3_loseIndex_12 rfl (lv_at hl 0 rfl) ?_
        refine lv_iconst (v := (-1)) hx hb dX3_loseIndex_13 (by decide) ?_
        refine va_iast hx hb hK hP (hD.to rfl) hS 1 0 rfl rfl (iv_in bk2_1_c2 (by decide) (by decide)) dX3_loseIndex_14 (fun H locs hP _ hS => ?_)
        obtain ⟨f3, ef3⟩ : ∃ y, y = upd f2_a0_index (k2_1).toNatClampNeg ((-1) : Int32) := ⟨_, rfl⟩
        rw [← ef3] at hP
        have rf3 : rg (-1) (-1) 32 f3 := by rw [ef3]; exact (rg.mono rf2_a0_index (by decide) (by decide)).up (iv_m (iv_k (-1) (k := (-1)) (by decide)) (by decide) (by decide))
        have pf3 : ∀ j : Nat, (j : Int) < k2_1.toInt + 1 → (f3 j).toInt = (-1) := by rw [ef3]; exact pf_up pf2_a0_index bk2_1_c2 (by decide) (iv_k (-1) (k := (-1)) (by decide))
        have hP : va_P (dC, dI) vqCl [(a0, .inr (3, [.ref a0_copies, .ref a0_signs, .ref a0_index, .ref a0_wears, .int v_a0_next])), (a0_index, .inl (cI, 32, .inl f3))] H := hP
        obtain ⟨z4, ez4⟩ : ∃ y : Int32, y = k2_1 + 1 := ⟨_, rfl⟩
        refine lv_iinc (v := z4) (lv' := [(1, .int z4), (0, .ref a0)]) hx hb dX3_loseIndex_15 hl (k := 0) rfl (by rw [ez4]; rfl) (by decide) rfl (fun ls hl => ?_)
        have qz4 := iv_add (lo := 1) (hi := 32) ez4 bk2_1_c2 (iv_k 1 (k := 1) (by decide)) (by decide) (by decide) (by decide) (by decide)
        rw [show (1 : Int32).toInt = 1 from rfl] at qz4
        refine lv_goto (tgt := 2) hx hb dX3_loseIndex_18 (by decide) ?_
        exact ih z4 f3 (iv_m qz4.2 (by decide) (by decide)) (rg.mono rf3 (by decide) (by decide)) (fun j hj => pf3 j (by omega)) (by omega) _ _ hP hS ls (lv_sub hl [0, 1] rfl)
  exact L2_0 _ (0 : Int32) f_a0_index (iv_m (iv_k 0 (k := 0) (by decide)) (by decide) (by decide)) (rg.mono rf_a0_index (by decide) (by decide)) (fun j hj => absurd hj (by have e : (0 : Int32).toInt = 0 := by decide
                                                                                                                        omega)) (Nat.lt_succ_self _) _ _ hP hS ls (lv_sub hl [0, 1] rfl)
set_option maxHeartbeats 4000000 in
set_option maxRecDepth 100000 in
theorem kX4_init_1 (l : Launch) (dC : Nat → ClassId) (dI : Nat → Nat → Nat) (cI cZ cC cJ cD : ClassId) (qf : Nat) (a0 : Nat) (sz : Nat) : Met l yX4_init wsX4_init ({ frames := 1, cells := 4, slots := 100, locals := 25 } : Room) (mPre qf [.ref a0] sz (dC, dI) (mT cI cZ cC cJ cD) [(a0, .inr (4, [.null, .null, .null, .null]))]) (mQc (fun (u : (Nat) × (Nat) × (Nat) × (Nat) × (Nat → Int32) × (Nat → Int32) × (Nat → Int32) × (Nat → Int32)) => rg 1 1 32 (u.2.2.2.2.1) ∧ rg 1 1 32 (u.2.2.2.2.2.1) ∧ rg 0 0 32 (u.2.2.2.2.2.2.1) ∧ rg 0 0 4 (u.2.2.2.2.2.2.2) ∧ True) (fun (u : (Nat) × (Nat) × (Nat) × (Nat) × (Nat → Int32) × (Nat → Int32) × (Nat → Int32) × (Nat → Int32)) => [(a0, .inr (4, [.ref (u.1), .ref (u.2.1), .ref (u.2.2.1), .ref (u.2.2.2.1)])), ((u.1), .inl (cI, 32, .inl (u.2.2.2.2.1))), ((u.2.1), .inl (cI, 32, .inl (u.2.2.2.2.2.1))), ((u.2.2.1), .inl (cI, 32, .inl (u.2.2.2.2.2.2.1))), ((u.2.2.2.1), .inl (cI, 4, .inl (u.2.2.2.2.2.2.2)))]) (fun (u : (Nat) × (Nat) × (Nat) × (Nat) × (Nat → Int32) × (Nat → Int32) × (Nat → Int32) × (Nat → Int32)) => [a0, (u.1), (u.2.1), (u.2.2.1), (u.2.2.2.1)]) (dC, dI) (va_A [(a0, .inr (4, [.null, .null, .null, .null]))] sz)) 4 100 (va_A [(a0, .inr (4, [.null, .null, .null, .null]))] sz) := by
  refine mMetC (Qc := fun A => mQc (fun (u : (Nat) × (Nat) × (Nat) × (Nat) × (Nat → Int32) × (Nat → Int32) × (Nat → Int32) × (Nat → Int32)) => rg 1 1 32 (u.2.2.2.2.1) ∧ rg 1 1 32 (u.2.2.2.2.2.1) ∧ rg 0 0 32 (u.2.2.2.2.2.2.1) ∧ rg 0 0 4 (u.2.2.2.2.2.2.2) ∧ True) (fun (u : (Nat) × (Nat) × (Nat) × (Nat) × (Nat → Int32) × (Nat → Int32) × (Nat → Int32) × (Nat → Int32)) => [(a0, .inr (4, [.ref (u.1), .ref (u.2.1), .ref (u.2.2.1), .ref (u.2.2.2.1)])), ((u.1), .inl (cI, 32, .inl (u.2.2.2.2.1))), ((u.2.1), .inl (cI, 32, .inl (u.2.2.2.2.2.1))), ((u.2.2.1), .inl (cI, 32, .inl (u.2.2.2.2.2.2.1))), ((u.2.2.2.1), .inl (cI, 4, .inl (u.2.2.2.2.2.2.2)))]) (fun (u : (Nat) × (Nat) × (Nat) × (Nat) × (Nat → Int32) × (Nat → Int32) × (Nat → Int32) × (Nat → Int32)) => [a0, (u.1), (u.2.1), (u.2.2.1), (u.2.2.2.1)]) (dC, dI) A) (own := RX4) (by decide) rfl rfl (Nat.le_of_ble_eq_true rfl) ?_
  intro p e s m args below meth c hx hb hr hts hown hml hlk hini A hsz hP hK hD hS hA hE ls hl Q hQ
  have hl : lv_has ls 2 [(0, .ref a0)] := hl
  have hinX4 : ∀ w ∈ u_ws RX4 TX4 4, w ∈ wsX4_init := fun w h => List.mem_cons_of_mem _ (List.mem_append_left _ (List.mem_append_right _ h))
  refine lv_aload_n hx hb dX4_init_0 rfl (lv_at hl 0 rfl) ?_
  refine W.objInit hx hb hown (hts (.methodLink RX4 3 objectInit) (List.mem_of_getElem? (i := 1) rfl)) (hts (.instanceMethod objectInit) (List.mem_of_getElem? (i := 2) rfl)) (hts (.code objectInit ⟨#[0xb1]⟩ 1 none) (List.mem_of_getElem? (i := 3) rfl)) rfl (by rw [hml]; exact hl.1) rfl dX4_init_1 (Nat.le_of_ble_eq_true rfl) (Nat.le_of_ble_eq_true rfl) ?_
  refine W.eq (g2 := F0 m 4 ls []) rfl ?_
  refine lv_aload_n hx hb dX4_init_4 rfl (lv_at hl 0 rfl) ?_
  refine lv_bipush (v := 32) hx hb dX4_init_5 (by decide) ?_
  refine mNewA (N' := 32) (a0 := (32, .inl (fun _ => (0 : Int32)))) 0 rfl (fun _ h => nomatch h) hx hb (hts (.arrayClass .int) (List.mem_of_getElem? (i := 4) rfl)) rfl hK hP hD rfl hS hA (fun _ => rfl) (iv_nn (iv_k 32 (k := 32) (by decide)) (by decide)) (iv_cl (iv_k 32 (k := 32) (by decide))) (by decide) (Nat.le_of_ble_eq_true rfl) (Nat.le_of_ble_eq_true rfl) dX4_init_7 (fun n1 H hP hD hS => ?_)
  have hP : va_P (dC, dI) vqCl [(a0, .inr (4, [.null, .null, .null, .null])), (n1, .inl (cI, 32, .inl (fun _ => (0 : Int32))))] H := hP
  have hD : mD A [a0, n1] := hD
  refine va_putF (D := (dC, dI)) (ci := 4) (v := .ref n1) (ty := (.array .int)) (C := RX4) (T := TX4) (N := 4) hx hb hts hinX4 tyX4 tyX4_ok nmX4 hown hK hP (hD.to rfl) hS 0 rfl rfl 0 (by decide) (hts (.fieldLink RX4 9 "SlipstreamCache$Keys" "sizes" "[I") (List.mem_of_getElem? (i := 5) rfl)) (fun _ h9 => h9) rfl hini rfl (by decide +kernel) rfl rfl (Nat.le_of_ble_eq_true rfl) dX4_init_9 (fun H locs hP _ hS => ?_)
  have hP : va_P (dC, dI) vqCl [(a0, .inr (4, [.ref n1, .null, .null, .null])), (n1, .inl (cI, 32, .inl (fun _ => (0 : Int32))))] H := hP
  refine lv_aload_n hx hb dX4_init_12 rfl (lv_at hl 0 rfl) ?_
  refine lv_bipush (v := 32) hx hb dX4_init_13 (by decide) ?_
  refine mNewA (N' := 32) (a0 := (32, .inl (fun _ => (0 : Int32)))) 0 rfl (fun _ h => nomatch h) hx hb (hts (.arrayClass .int) (List.mem_of_getElem? (i := 4) rfl)) rfl hK hP hD rfl hS hA (fun _ => rfl) (iv_nn (iv_k 32 (k := 32) (by decide)) (by decide)) (iv_cl (iv_k 32 (k := 32) (by decide))) (by decide) (Nat.le_of_ble_eq_true rfl) (Nat.le_of_ble_eq_true rfl) dX4_init_15 (fun n2 H hP hD hS => ?_)
  have hP : va_P (dC, dI) vqCl [(a0, .inr (4, [.ref n1, .null, .null, .null])), (n1, .inl (cI, 32, .inl (fun _ => (0 : Int32)))), (n2, .inl (cI, 32, .inl (fun _ => (0 : Int32))))] H := hP
  have hD : mD A [a0, n1, n2] := hD
  refine va_putF (D := (dC, dI)) (ci := 4) (v := .ref n2) (ty := (.array .int)) (C := RX4) (T := TX4) (N := 4) hx hb hts hinX4 tyX4 tyX4_ok nmX4 hown hK hP (hD.to rfl) hS 0 rfl rfl 1 (by decide) (hts (.fieldLink RX4 15 "SlipstreamCache$Keys" "costs" "[I") (List.mem_of_getElem? (i := 6) rfl)) (fun _ h9 => h9) rfl hini rfl (by decide +kernel) rfl rfl (Nat.le_of_ble_eq_true rfl) dX4_init_17 (fun H locs hP _ hS => ?_)
  have hP : va_P (dC, dI) vqCl [(a0, .inr (4, [.ref n1, .ref n2, .null, .null])), (n1, .inl (cI, 32, .inl (fun _ => (0 : Int32)))), (n2, .inl (cI, 32, .inl (fun _ => (0 : Int32))))] H := hP
  refine lv_aload_n hx hb dX4_init_20 rfl (lv_at hl 0 rfl) ?_
  refine lv_bipush (v := 32) hx hb dX4_init_21 (by decide) ?_
  refine mNewA (N' := 32) (a0 := (32, .inl (fun _ => (0 : Int32)))) 0 rfl (fun _ h => nomatch h) hx hb (hts (.arrayClass .int) (List.mem_of_getElem? (i := 4) rfl)) rfl hK hP hD rfl hS hA (fun _ => rfl) (iv_nn (iv_k 32 (k := 32) (by decide)) (by decide)) (iv_cl (iv_k 32 (k := 32) (by decide))) (by decide) (Nat.le_of_ble_eq_true rfl) (Nat.le_of_ble_eq_true rfl) dX4_init_23 (fun n3 H hP hD hS => ?_)
  have hP : va_P (dC, dI) vqCl [(a0, .inr (4, [.ref n1, .ref n2, .null, .null])), (n1, .inl (cI, 32, .inl (fun _ => (0 : Int32)))), (n2, .inl (cI, 32, .inl (fun _ => (0 : Int32)))), (n3, .inl (cI, 32, .inl (fun _ => (0 : Int32))))] H := hP
  have hD : mD A [a0, n1, n2, n3] := hD
  refine va_putF (D := (dC, dI)) (ci := 4) (v := .ref n3) (ty := (.array .int)) (C := RX4) (T := TX4) (N := 4) hx hb hts hinX4 tyX4 tyX4_ok nmX4 hown hK hP (hD.to rfl) hS 0 rfl rfl 2 (by decide) (hts (.fieldLink RX4 18 "SlipstreamCache$Keys" "groups" "[I") (List.mem_of_getElem? (i := 7) rfl)) (fun _ h9 => h9) rfl hini rfl (by decide +kernel) rfl rfl (Nat.le_of_ble_eq_true rfl) dX4_init_25 (fun H locs hP _ hS => ?_)
  have hP : va_P (dC, dI) vqCl [(a0, .inr (4, [.ref n1, .ref n2, .ref n3, .null])), (n1, .inl (cI, 32, .inl (fun _ => (0 : Int32)))), (n2, .inl (cI, 32, .inl (fun _ => (0 : Int32)))), (n3, .inl (cI, 32, .inl (fun _ => (0 : Int32))))] H := hP
  refine lv_aload_n hx hb dX4_init_28 rfl (lv_at hl 0 rfl) ?_
  refine lv_iconst (v := 4) hx hb dX4_init_29 (by decide) ?_
  refine mNewA (N' := 4) (a0 := (4, .inl (fun _ => (0 : Int32)))) 0 rfl (fun _ h => nomatch h) hx hb (hts (.arrayClass .int) (List.mem_of_getElem? (i := 4) rfl)) rfl hK hP hD rfl hS hA (fun _ => rfl) (iv_nn (iv_k 4 (k := 4) (by decide)) (by decide)) (iv_cl (iv_k 4 (k := 4) (by decide))) (by decide) (Nat.le_of_ble_eq_true rfl) (Nat.le_of_ble_eq_true rfl) dX4_init_30 (fun n4 H hP hD hS => ?_)
  have hP : va_P (dC, dI) vqCl [(a0, .inr (4, [.ref n1, .ref n2, .ref n3, .null])), (n1, .inl (cI, 32, .inl (fun _ => (0 : Int32)))), (n2, .inl (cI, 32, .inl (fun _ => (0 : Int32)))), (n3, .inl (cI, 32, .inl (fun _ => (0 : Int32)))), (n4, .inl (cI, 4, .inl (fun _ => (0 : Int32))))] H := hP
  have hD : mD A [a0, n1, n2, n3, n4] := hD
  refine va_putF (D := (dC, dI)) (ci := 4) (v := .ref n4) (ty := (.array .int)) (C := RX4) (T := TX4) (N := 4) hx hb hts hinX4 tyX4 tyX4_ok nmX4 hown hK hP (hD.to rfl) hS 0 rfl rfl 3 (by decide) (hts (.fieldLink RX4 21 "SlipstreamCache$Keys" "numbers" "[I") (List.mem_of_getElem? (i := 8) rfl)) (fun _ h9 => h9) rfl hini rfl (by decide +kernel) rfl rfl (Nat.le_of_ble_eq_true rfl) dX4_init_32 (fun H locs hP _ hS => ?_)
  have hP : va_P (dC, dI) vqCl [(a0, .inr (4, [.ref n1, .ref n2, .ref n3, .ref n4])), (n1, .inl (cI, 32, .inl (fun _ => (0 : Int32)))), (n2, .inl (cI, 32, .inl (fun _ => (0 : Int32)))), (n3, .inl (cI, 32, .inl (fun _ => (0 : Int32)))), (n4, .inl (cI, 4, .inl (fun _ => (0 : Int32))))] H := hP
  refine lv_iconst (v := 0) hx hb dX4_init_35 (by decide) ?_
  refine lv_istore_n (lv' := [(1, .int 0), (0, .ref a0)]) hx hb dX4_init_36 rfl hl (by decide) rfl (fun ls hl => ?_)
  have L37_4 : ∀ (n : Nat) (k37_1 : Int32) (f37_n1 : Nat → Int32) (f37_n2 : Nat → Int32), (0 ≤ k37_1.toInt ∧ k37_1.toInt ≤ 32) → (rg 0 1 32 f37_n1) → (rg 0 1 32 f37_n2) → (∀ j : Nat, (j : Int) < k37_1.toInt → (f37_n1 j).toInt = 1) → (∀ j : Nat, (j : Int) < k37_1.toInt → (f37_n2 j).toInt = 1) → (32 + 1 - k37_1.toInt).toNat < n → ∀ (H : Heap) (locs : List Loc), va_P (dC, dI) vqCl [(a0, .inr (4, [.ref n1, .ref n2, .ref n3, .ref n4])), (n1, .inl (cI, 32, .inl f37_n1)), (n2, .inl (cI, 32, .inl f37_n2)), (n3, .inl (cI, 32, .inl (fun _ => (0 : Int32)))), (n4, .inl (cI, 4, .inl (fun _ => (0 : Int32))))] H → va_S A s.heap H locs → ∀ ls : Array Slot, lv_has ls 2 [(1, .int k37_1), (0, .ref a0)] → W p l e ({ frames := 1, cells := 4, slots := 100, locals := 25 } : Room) s m args below meth c H locs 4 100 Q (F0 m 37 ls []) := by
    intro n
    induction n with
    | zero =>
      intro k37_1 f37_n1 f37_n2 bk37_1 rf37_n1 rf37_n2 pf37_n1 pf37_n2 hm
      exact absurd hm (Nat.not_lt_zero _)
    | succ n ih =>
      intro k37_1 f37_n1 f37_n2 bk37_1 rf37_n1 rf37_n2 pf37_n1 pf37_n2 hm H locs hP hS ls hl
      refine lv_iload_n hx hb dX4_init_37 rfl (lv_at hl 0 rfl) ?_
      refine lv_bipush (v := 32) hx hb dX4_init_38 (by decide) ?_
      refine lv_icmp_ge (tgt := 63) hx hb dX4_init_40 (by decide) (fun c6 => ?_) (fun c6 => ?_)
      · have c6 := c_le c6
        have bk37_1_c6 : 32 ≤ k37_1.toInt ∧ k37_1.toInt ≤ 32 := l_le bk37_1 (iv_k 32 (k := 32) (by decide)) c6 (by decide) (by decide)
        have rf37_n1_c6 : rg 1 1 32 f37_n1 := fun j hj => by have h9 := pf37_n1 j (by omega); omega
        have rf37_n2_c6 : rg 1 1 32 f37_n2 := fun j hj => by have h9 := pf37_n2 j (by omega); omega
        subst hQ
        exact W.vret hx hb hr (fun t ht hW => ⟨⟨(n1, n2, n3, n4, f37_n1, f37_n2, (fun _ => (0 : Int32)), (fun _ => (0 : Int32))), rfl, ⟨rg.mono rf37_n1_c6 (by decide) (by decide), rg.mono rf37_n2_c6 (by decide) (by decide), rg.mono (rg.zero _) (by decide) (by decide), rg.mono (rg.zero _) (by decide) (by decide), trivial⟩, by rw [ht]; exact hP, hD⟩, hS.F ht⟩) hS.2.2 dX4_init_63
      · have c6 := c_nle c6
        have bk37_1_c6 : 0 ≤ k37_1.toInt ∧ k37_1.toInt ≤ 31 := u_lt bk37_1 (iv_k 32 (k := 32) (by decide)) c6 (by decide) (by decide)
        refine lv_aload_n hx hb dX4_init_43 rfl (lv_at hl 1 rfl) ?_
        refine va_get (D := (dC, dI)) (ci := 4) (v := .ref n1) (C := RX4) (T := TX4) (N := 4) hx hb hts hinX4 hown hK hP 0 rfl rfl 0 (by decide) (hts (.fieldLink RX4 9 "SlipstreamCache$Keys" "sizes" "[I") (List.mem_of_getElem? (i := 5) rfl)) (fun _ h9 => h9) rfl dX4_init_44 ?_
        refine lv_iload_n hx hb dX4_init_47 rfl (lv_at hl 0 rfl) ?_
        refine lv_iconst (v := 1) hx hb dX4_init_48 (by decide) ?_
        refine va_iast hx hb hK hP (hD.to rfl) hS 1 0 rfl rfl (iv_in bk37_1_c6 (by decide) (by decide)) dX4_init_49 (fun H locs hP _ hS => ?_)
        obtain ⟨f7, ef7⟩ : ∃ y, y = upd f37_n1 (k37_1).toNatClampNeg (1 : Int32) := ⟨_, rfl⟩
        rw [← ef7] at hP
        have rf7 : rg 0 1 32 f7 := by rw [ef7]; exact (rg.mono rf37_n1 (by decide) (by decide)).up (iv_m (iv_k 1 (k := 1) (by decide)) (by decide) (by decide))
        have pf7 : ∀ j : Nat, (j : Int) < k37_1.toInt + 1 → (f7 j).toInt = 1 := by rw [ef7]; exact pf_up pf37_n1 bk37_1_c6 (by decide) (iv_k 1 (k := 1) (by decide))
        have tf7 : 1 ≤ (f7 (k37_1).toNatClampNeg).toInt ∧ (f7 (k37_1).toNatClampNeg).toInt ≤ 1 := by rw [ef7, pk_us]; exact (iv_k 1 (k := 1) (by decide))
        have hP : va_P (dC, dI) vqCl [(a0, .inr (4, [.ref n1, .ref n2, .ref n3, .ref n4])), (n1, .inl (cI, 32, .inl f7)), (n2, .inl (cI, 32, .inl f37_n2)), (n3, .inl (cI, 32, .inl (fun _ => (0 : Int32)))), (n4, .inl (cI, 4, .inl (fun _ => (0 : Int32))))] H := hP
        refine lv_aload_n hx hb dX4_init_50 rfl (lv_at hl 1 rfl) ?_
        refine va_get (D := (dC, dI)) (ci := 4) (v := .ref n2) (C := RX4) (T := TX4) (N := 4) hx hb hts hinX4 hown hK hP 0 rfl rfl 1 (by decide) (hts (.fieldLink RX4 15 "SlipstreamCache$Keys" "costs" "[I") (List.mem_of_getElem? (i := 6) rfl)) (fun _ h9 => h9) rfl dX4_init_51 ?_
        refine lv_iload_n hx hb dX4_init_54 rfl (lv_at hl 0 rfl) ?_
        refine lv_iconst (v := 1) hx hb dX4_init_55 (by decide) ?_
        refine va_iast hx hb hK hP (hD.to rfl) hS 2 0 rfl rfl (iv_in bk37_1_c6 (by decide) (by decide)) dX4_init_56 (fun H locs hP _ hS => ?_)
        obtain ⟨f8, ef8⟩ : ∃ y, y = upd f37_n2 (k37_1).toNatClampNeg (1 : Int32) := ⟨_, rfl⟩
        rw [← ef8] at hP
        have rf8 : rg 0 1 32 f8 := by rw [ef8]; exact (rg.mono rf37_n2 (by decide) (by decide)).up (iv_m (iv_k 1 (k := 1) (by decide)) (by decide) (by decide))
        have pf8 : ∀ j : Nat, (j : Int) < k37_1.toInt + 1 → (f8 j).toInt = 1 := by rw [ef8]; exact pf_up pf37_n2 bk37_1_c6 (by decide) (iv_k 1 (k := 1) (by decide))
        have tf8 : 1 ≤ (f8 (k37_1).toNatClampNeg).toInt ∧ (f8 (k37_1).toNatClampNeg).toInt ≤ 1 := by rw [ef8, pk_us]; exact (iv_k 1 (k := 1) (by decide))
        have hP : va_P (dC, dI) vqCl [(a0, .inr (4, [.ref n1, .ref n2, .ref n3, .ref n4])), (n1, .inl (cI, 32, .inl f7)), (n2, .inl (cI, 32, .inl f8)), (n3, .inl (cI, 32, .inl (fun _ => (0 : Int32)))), (n4, .inl (cI, 4, .inl (fun _ => (0 : Int32))))] H := hP
        obtain ⟨z9, ez9⟩ : ∃ y : Int32, y = k37_1 + 1 := ⟨_, rfl⟩
        refine lv_iinc (v := z9) (lv' := [(1, .int z9), (0, .ref a0)]) hx hb dX4_init_57 hl (k := 0) rfl (by rw [ez9]; rfl) (by decide) rfl (fun ls hl => ?_)
        have qz9 := iv_add (lo := 1) (hi := 32) ez9 bk37_1_c6 (iv_k 1 (k := 1) (by decide)) (by decide) (by decide) (by decide) (by decide)
        rw [show (1 : Int32).toInt = 1 from rfl] at qz9
        refine lv_goto (tgt := 37) hx hb dX4_init_60 (by decide) ?_
        exact ih z9 f7 f8 (iv_m qz9.2 (by decide) (by decide)) (rg.mono rf7 (by decide) (by decide)) (rg.mono rf8 (by decide) (by decide)) (fun j hj => pf7 j (by omega)) (fun j hj => pf8 j (by omega)) (by omega) _ _ hP hS ls (lv_sub hl [0, 1] rfl)
  exact L37_4 _ (0 : Int32) (fun _ => (0 : Int32)) (fun _ => (0 : Int32)) (iv_m (iv_k 0 (k := 0) (by decide)) (by decide) (by decide)) (rg.mono (rg.zero _) (by decide) (by decide)) (rg.mono (rg.zero _) (by decide) (by decide)) (fun j hj => absurd hj (by have e : (0 : Int32).toInt = 0 := by decide
                                                                                                                        omega)) (fun j hj => absurd hj (by have e : (0 : Int32).toInt = 0 := by decide
                                                                                                                        omega)) (Nat.lt_succ_self _) _ _ hP hS ls (lv_sub hl [0, 1] rfl)
