set_option maxHeartbeats 4000000 in
set_option maxRecDepth 100000 in
theorem kX2_take_1 (l : Launch) (dC : Nat → ClassId) (dI : Nat → Nat → Nat) (cI cZ cC cJ cD : ClassId) (qf : Nat) (a0 a0_values a0_versions a0_minutes a0_numbers a2 a2_values a2_versions a2_minutes a2_numbers : Nat) (sz : Nat) (f_a0_values : Nat → Int32) (f_a0_versions : Nat → Int32) (f_a0_minutes : Nat → Int32) (f_a0_numbers : Nat → Int32) (f_a2_values : Nat → Int32) (f_a2_versions : Nat → Int32) (f_a2_minutes : Nat → Int32) (f_a2_numbers : Nat → Int32) (p1 p3 : Int32) (rf_a0_minutes : rg 0 5000 1 f_a0_minutes) (rf_a2_minutes : rg 0 5000 16 f_a2_minutes) (bp1 : 0 ≤ p1.toInt ∧ p1.toInt ≤ 0) (bp3 : 0 ≤ p3.toInt ∧ p3.toInt ≤ 15) : Met l yX2_take wsX2_take ({ frames := 2, cells := 0, slots := 0, locals := 25 } : Room) (mPre qf [.ref a0, .int p1, .ref a2, .int p3] sz (dC, dI) (mT cI cZ cC cJ cD) [(a0, .inr (2, [.ref a0_values, .ref a0_versions, .ref a0_minutes, .ref a0_numbers])), (a2, .inr (2, [.ref a2_values, .ref a2_versions, .ref a2_minutes, .ref a2_numbers])), (a0_values, .inl (cI, 1, .inl f_a0_values)), (a0_versions, .inl (cI, 1, .inl f_a0_versions)), (a0_minutes, .inl (cI, 1, .inl f_a0_minutes)), (a0_numbers, .inl (cI, 1, .inl f_a0_numbers)), (a2_values, .inl (cI, 16, .inl f_a2_values)), (a2_versions, .inl (cI, 16, .inl f_a2_versions)), (a2_minutes, .inl (cI, 16, .inl f_a2_minutes)), (a2_numbers, .inl (cI, 16, .inl f_a2_numbers))]) (mQv (fun (u : (Nat → Int32) × (Nat → Int32) × (Nat → Int32) × (Nat → Int32)) => rg 0 5000 1 (u.2.2.1) ∧ ((u.2.1) = upd f_a0_versions (p1).toNatClampNeg (f_a2_versions (p3).toNatClampNeg)) ∧ ((u.2.2.1) = upd f_a0_minutes (p1).toNatClampNeg (f_a2_minutes (p3).toNatClampNeg)) ∧ True) (fun (u : (Nat → Int32) × (Nat → Int32) × (Nat → Int32) × (Nat → Int32)) => [(a0, .inr (2, [.ref a0_values, .ref a0_versions, .ref a0_minutes, .ref a0_numbers])), (a2, .inr (2, [.ref a2_values, .ref a2_versions, .ref a2_minutes, .ref a2_numbers])), (a0_values, .inl (cI, 1, .inl (u.1))), (a0_versions, .inl (cI, 1, .inl (u.2.1))), (a0_minutes, .inl (cI, 1, .inl (u.2.2.1))), (a0_numbers, .inl (cI, 1, .inl (u.2.2.2))), (a2_values, .inl (cI, 16, .inl f_a2_values)), (a2_versions, .inl (cI, 16, .inl f_a2_versions)), (a2_minutes, .inl (cI, 16, .inl f_a2_minutes)), (a2_numbers, .inl (cI, 16, .inl f_a2_numbers))]) (dC, dI) (va_A [(a0, .inr (2, [.ref a0_values, .ref a0_versions, .ref a0_minutes, .ref a0_numbers])), (a2, .inr (2, [.ref a2_values, .ref a2_versions, .ref a2_minutes, .ref a2_numbers])), (a0_values, .inl (cI, 1, .inl f_a0_values)), (a0_versions, .inl (cI, 1, .inl f_a0_versions)), (a0_minutes, .inl (cI, 1, .inl f_a0_minutes)), (a0_numbers, .inl (cI, 1, .inl f_a0_numbers)), (a2_values, .inl (cI, 16, .inl f_a2_values)), (a2_versions, .inl (cI, 16, .inl f_a2_versions)), (a2_minutes, .inl (cI, 16, .inl f_a2_minutes)), (a2_numbers, .inl (cI, 16, .inl f_a2_numbers))] sz)) 0 0 (va_A [(a0, .inr (2, [.ref a0_values, .ref a0_versions, .ref a0_minutes, .ref a0_numbers])), (a2, .inr (2, [.ref a2_values, .ref a2_versions, .ref a2_minutes, .ref a2_numbers])), (a0_values, .inl (cI, 1, .inl f_a0_values)), (a0_versions, .inl (cI, 1, .inl f_a0_versions)), (a0_minutes, .inl (cI, 1, .inl f_a0_minutes)), (a0_numbers, .inl (cI, 1, .inl f_a0_numbers)), (a2_values, .inl (cI, 16, .inl f_a2_values)), (a2_versions, .inl (cI, 16, .inl f_a2_versions)), (a2_minutes, .inl (cI, 16, .inl f_a2_minutes)), (a2_numbers, .inl (cI, 16, .inl f_a2_numbers))] sz) := by
  refine mMet (Qc := fun A => mQv (fun (u : (Nat → Int32) × (Nat → Int32) × (Nat → Int32) × (Nat → Int32)) => rg 0 5000 1 (u.2.2.1) ∧ ((u.2.1) = upd f_a0_versions (p1).toNatClampNeg (f_a2_versions (p3).toNatClampNeg)) ∧ ((u.2.2.1) = upd f_a0_minutes (p1).toNatClampNeg (f_a2_minutes (p3).toNatClampNeg)) ∧ True) (fun (u : (Nat → Int32) × (Nat → Int32) × (Nat → Int32) × (Nat → Int32)) => [(a0, .inr (2, [.ref a0_values, .ref a0_versions, .ref a0_minutes, .ref a0_numbers])), (a2, .inr (2, [.ref a2_values, .ref a2_versions, .ref a2_minutes, .ref a2_numbers])), (a0_values, .inl (cI, 1, .inl (u.1))), (a0_versions, .inl (cI, 1, .inl (u.2.1))), (a0_minutes, .inl (cI, 1, .inl (u.2.2.1))), (a0_numbers, .inl (cI, 1, .inl (u.2.2.2))), (a2_values, .inl (cI, 16, .inl f_a2_values)), (a2_versions, .inl (cI, 16, .inl f_a2_versions)), (a2_minutes, .inl (cI, 16, .inl f_a2_minutes)), (a2_numbers, .inl (cI, 16, .inl f_a2_numbers))]) (dC, dI) A) (y := yX2_take) (ws := wsX2_take) (av := [.ref a0, .int p1, .ref a2, .int p3]) (wc := [(a0, .inr (2, [.ref a0_values, .ref a0_versions, .ref a0_minutes, .ref a0_numbers])), (a2, .inr (2, [.ref a2_values, .ref a2_versions, .ref a2_minutes, .ref a2_numbers])), (a0_values, .inl (cI, 1, .inl f_a0_values)), (a0_versions, .inl (cI, 1, .inl f_a0_versions)), (a0_minutes, .inl (cI, 1, .inl f_a0_minutes)), (a0_numbers, .inl (cI, 1, .inl f_a0_numbers)), (a2_values, .inl (cI, 16, .inl f_a2_values)), (a2_versions, .inl (cI, 16, .inl f_a2_versions)), (a2_minutes, .inl (cI, 16, .inl f_a2_minutes)), (a2_numbers, .inl (cI, 16, .inl f_a2_numbers))]) (cc := cX2_take) (maxL := 4) (ret := none) (own := RX2) (by decide) rfl rfl (Nat.le_of_ble_eq_true rfl) ?_
  intro p e s m args below meth c hx hb hr hts hown hml hlk A hsz hP hK hD hS hA hE ls hl Q hQ
  have hl : lv_has ls 4 [(0, .ref a0), (1, .int p1), (2, .ref a2), (3, .int p3)] := hl
  have hinX2 : ∀ w ∈ u_ws RX2 TX2 4, w ∈ wsX2_take := fun w h => List.mem_cons_of_mem _ (List.mem_append_left _ (List.mem_append_right _ h))
  refine lv_aload_n hx hb dX2_take_0 rfl (lv_at hl 0 rfl) ?_
  refine lv_iload_n hx hb dX2_take_1 rfl (lv_at hl 1 rfl) ?_
  refine lv_aload_n hx hb dX2_take_2 rfl (lv_at hl 2 rfl) ?_
  refine va_get (D := (dC, dI)) (ci := 2) (v := .ref a2_values) (C := RX2) (T := TX2) (N := 4) hx hb hts hinX2 hown hK hP 1 rfl rfl 0 (by decide) (hts (.fieldLink RX2 7 "SlipstreamCache$Copies" "values" "[I") (List.mem_of_getElem? (i := 1) rfl)) (fun _ h9 => h9) rfl dX2_take_3 ?_
  refine lv_iload_n hx hb dX2_take_6 rfl (lv_at hl 3 rfl) ?_
  refine va_iald hx hb hK hP 6 0 rfl rfl (iv_in bp3 (by decide) (by decide)) dX2_take_7 ?_
  refine lv_topi (fun z101 ez101 => ?_)
  refine lv_aload_n hx hb dX2_take_8 rfl (lv_at hl 2 rfl) ?_
  refine va_get (D := (dC, dI)) (ci := 2) (v := .ref a2_versions) (C := RX2) (T := TX2) (N := 4) hx hb hts hinX2 hown hK hP 1 rfl rfl 1 (by decide) (hts (.fieldLink RX2 13 "SlipstreamCache$Copies" "versions" "[I") (List.mem_of_getElem? (i := 2) rfl)) (fun _ h9 => h9) rfl dX2_take_9 ?_
  refine lv_iload_n hx hb dX2_take_12 rfl (lv_at hl 3 rfl) ?_
  refine va_iald hx hb hK hP 7 0 rfl rfl (iv_in bp3 (by decide) (by decide)) dX2_take_13 ?_
  refine lv_topi (fun z102 ez102 => ?_)
  refine lv_aload_n hx hb dX2_take_14 rfl (lv_at hl 2 rfl) ?_
  refine va_get (D := (dC, dI)) (ci := 2) (v := .ref a2_minutes) (C := RX2) (T := TX2) (N := 4) hx hb hts hinX2 hown hK hP 1 rfl rfl 2 (by decide) (hts (.fieldLink RX2 16 "SlipstreamCache$Copies" "minutes" "[I") (List.mem_of_getElem? (i := 3) rfl)) (fun _ h9 => h9) rfl dX2_take_15 ?_
  refine lv_iload_n hx hb dX2_take_18 rfl (lv_at hl 3 rfl) ?_
  refine va_iald hx hb hK hP 8 0 rfl rfl (iv_in bp3 (by decide) (by decide)) dX2_take_19 ?_
  refine lv_topi (fun z103 ez103 => ?_)
  have bz103 : 0 ≤ z103.toInt ∧ z103.toInt ≤ 5000 := iv_at rf_a2_minutes bp3 (by decide) (by decide) ez103
  refine lv_aload_n hx hb dX2_take_20 rfl (lv_at hl 2 rfl) ?_
  refine va_get (D := (dC, dI)) (ci := 2) (v := .ref a2_numbers) (C := RX2) (T := TX2) (N := 4) hx hb hts hinX2 hown hK hP 1 rfl rfl 3 (by decide) (hts (.fieldLink RX2 19 "SlipstreamCache$Copies" "numbers" "[I") (List.mem_of_getElem? (i := 4) rfl)) (fun _ h9 => h9) rfl dX2_take_21 ?_
  refine lv_iload_n hx hb dX2_take_24 rfl (lv_at hl 3 rfl) ?_
  refine va_iald hx hb hK hP 9 0 rfl rfl (iv_in bp3 (by decide) (by decide)) dX2_take_25 ?_
  refine lv_topi (fun z104 ez104 => ?_)
  have hM := kX2_put_1 l dC dI cI cZ cC cJ cD qf a0 a0_values a0_versions a0_minutes a0_numbers s.heap.size f_a0_values f_a0_versions f_a0_minutes f_a0_numbers p1 z101 z102 z103 z104 (rg.mono rf_a0_minutes (by decide) (by decide)) (iv_m bp1 (by decide) (by decide)) (iv_m bz103 (by decide) (by decide))
  refine mVv (As := [.int p1, .int z101, .int z102, .int z103, .int z104]) (rest := []) (wc := [(a0, .inr (2, [.ref a0_values, .ref a0_versions, .ref a0_minutes, .ref a0_numbers])), (a0_values, .inl (cI, 1, .inl f_a0_values)), (a0_versions, .inl (cI, 1, .inl f_a0_versions)), (a0_minutes, .inl (cI, 1, .inl f_a0_minutes)), (a0_numbers, .inl (cI, 1, .inl f_a0_numbers))]) ⟨hx, hb, hml, hown, hts⟩ hM (cwV 5 hts gX2_take_X2_put rfl rfl rfl (by decide +kernel) ⟨(Nat.le_of_ble_eq_true rfl), (Nat.le_of_ble_eq_true rfl)⟩) hE hK hP hD rfl hS hA [0, 2, 3, 4, 5] rfl (by decide +kernel) (qr := 0) (cr := 2) rfl rfl rfl rfl hl rfl (Nat.le_of_ble_eq_true rfl) dX2_take_26 ⟨(Nat.le_of_ble_eq_true rfl), (Nat.le_of_ble_eq_true rfl)⟩ (fun _ => rfl) (fun uu106 H locs hw hP hS => ?_)
  obtain ⟨g107, g108, g109, g110⟩ := uu106
  have rg109 : rg 0 5000 1 g109 := hw.1
  have F111 : g108 = upd f_a0_versions (p1).toNatClampNeg z102 := hw.2.1
  have F112 : g109 = upd f_a0_minutes (p1).toNatClampNeg z103 := hw.2.2.1
  have hP : va_P (dC, dI) vqCl [(a0, .inr (2, [.ref a0_values, .ref a0_versions, .ref a0_minutes, .ref a0_numbers])), (a2, .inr (2, [.ref a2_values, .ref a2_versions, .ref a2_minutes, .ref a2_numbers])), (a0_values, .inl (cI, 1, .inl g107)), (a0_versions, .inl (cI, 1, .inl g108)), (a0_minutes, .inl (cI, 1, .inl g109)), (a0_numbers, .inl (cI, 1, .inl g110)), (a2_values, .inl (cI, 16, .inl f_a2_values)), (a2_versions, .inl (cI, 16, .inl f_a2_versions)), (a2_minutes, .inl (cI, 16, .inl f_a2_minutes)), (a2_numbers, .inl (cI, 16, .inl f_a2_numbers))] H := hP
  subst hQ
  exact W.vret hx hb hr (fun t ht hW => ⟨⟨(g107, g108, g109, g110), rfl, ⟨rg.mono rg109 (by decide) (by decide), (by show g108 = upd f_a0_versions (p1).toNatClampNeg (f_a2_versions (p3).toNatClampNeg); rw [F111, ez102]), (by show g109 = upd f_a0_minutes (p1).toNatClampNeg (f_a2_minutes (p3).toNatClampNeg); rw [F112, ez103]), trivial⟩, pAt ht hP⟩, hS.F ht⟩) hS.2.2 dX2_take_29
set_option maxHeartbeats 4000000 in
set_option maxRecDepth 100000 in
theorem kX10_staleBy_1 (l : Launch) (dC : Nat → ClassId) (dI : Nat → Nat → Nat) (cI cZ cC cJ cD : ClassId) (qf : Nat) (a0 a0_values a0_versions a0_logKeys a0_logVersions a0_logMinutes : Nat) (sz : Nat) (f_a0_logKeys : Nat → Int32) (f_a0_logVersions : Nat → Int32) (f_a0_logMinutes : Nat → Int32) (v_a0_logged p1 p2 p3 : Int32) (rf_a0_logKeys : rg 0 31 400 f_a0_logKeys) (rf_a0_logMinutes : rg 0 5000 400 f_a0_logMinutes) (bv_a0_logged : 0 ≤ v_a0_logged.toInt ∧ v_a0_logged.toInt ≤ 400) (bp1 : 0 ≤ p1.toInt ∧ p1.toInt ≤ 31) (bp3 : 0 ≤ p3.toInt ∧ p3.toInt ≤ 5000) : Met l yX10_staleBy wsX10_staleBy ({ frames := 1, cells := 0, slots := 0, locals := 0 } : Room) (mPre qf [.ref a0, .int p1, .int p2, .int p3] sz (dC, dI) (mT cI cZ cC cJ cD) [(a0, .inr (10, [.ref a0_values, .ref a0_versions, .ref a0_logKeys, .ref a0_logVersions, .ref a0_logMinutes, .int v_a0_logged])), (a0_logKeys, .inl (cI, 400, .inl f_a0_logKeys)), (a0_logVersions, .inl (cI, 400, .inl f_a0_logVersions)), (a0_logMinutes, .inl (cI, 400, .inl f_a0_logMinutes))]) (mQi (fun (r : Int32) (u : Unit) => ((-5000) ≤ r.toInt ∧ r.toInt ≤ 5000) ∧ (∀ m : Int32, TI p3.toInt v_a0_logged.toInt f_a0_logKeys f_a0_logVersions f_a0_logMinutes p1 p2 m → r.toInt ≤ p3.toInt - m.toInt) ∧ True) (fun (u : Unit) => [(a0, .inr (10, [.ref a0_values, .ref a0_versions, .ref a0_logKeys, .ref a0_logVersions, .ref a0_logMinutes, .int v_a0_logged])), (a0_logKeys, .inl (cI, 400, .inl f_a0_logKeys)), (a0_logVersions, .inl (cI, 400, .inl f_a0_logVersions)), (a0_logMinutes, .inl (cI, 400, .inl f_a0_logMinutes))]) (dC, dI) (va_A [(a0, .inr (10, [.ref a0_values, .ref a0_versions, .ref a0_logKeys, .ref a0_logVersions, .ref a0_logMinutes, .int v_a0_logged])), (a0_logKeys, .inl (cI, 400, .inl f_a0_logKeys)), (a0_logVersions, .inl (cI, 400, .inl f_a0_logVersions)), (a0_logMinutes, .inl (cI, 400, .inl f_a0_logMinutes))] sz)) 0 0 (va_A [(a0, .inr (10, [.ref a0_values, .ref a0_versions, .ref a0_logKeys, .ref a0_logVersions, .ref a0_logMinutes, .int v_a0_logged])), (a0_logKeys, .inl (cI, 400, .inl f_a0_logKeys)), (a0_logVersions, .inl (cI, 400, .inl f_a0_logVersions)), (a0_logMinutes, .inl (cI, 400, .inl f_a0_logMinutes))] sz) := by
  refine mMet (Qc := fun A => mQi (fun (r : Int32) (u : Unit) => ((-5000) ≤ r.toInt ∧ r.toInt ≤ 5000) ∧ (∀ m : Int32, TI p3.toInt v_a0_logged.toInt f_a0_logKeys f_a0_logVersions f_a0_logMinutes p1 p2 m → r.toInt ≤ p3.toInt - m.toInt) ∧ True) (fun (u : Unit) => [(a0, .inr (10, [.ref a0_values, .ref a0_versions, .ref a0_logKeys, .ref a0_logVersions, .ref a0_logMinutes, .int v_a0_logged])), (a0_logKeys, .inl (cI, 400, .inl f_a0_logKeys)), (a0_logVersions, .inl (cI, 400, .inl f_a0_logVersions)), (a0_logMinutes, .inl (cI, 400, .inl f_a0_logMinutes))]) (dC, dI) A) (y := yX10_staleBy) (ws := wsX10_staleBy) (av := [.ref a0, .int p1, .int p2, .int p3]) (wc := [(a0, .inr (10, [.ref a0_values, .ref a0_versions, .ref a0_logKeys, .ref a0_logVersions, .ref a0_logMinutes, .int v_a0_logged])), (a0_logKeys, .inl (cI, 400, .inl f_a0_logKeys)), (a0_logVersions, .inl (cI, 400, .inl f_a0_logVersions)), (a0_logMinutes, .inl (cI, 400, .inl f_a0_logMinutes))]) (cc := cX10_staleBy) (maxL := 5) (ret := (some .int)) (own := RX10) (by decide) rfl rfl (Nat.le_of_ble_eq_true rfl) ?_
  intro p e s m args below meth c hx hb hr hts hown hml hlk A hsz hP hK hD hS hA hE ls hl Q hQ
  have hl : lv_has ls 5 [(0, .ref a0), (1, .int p1), (2, .int p2), (3, .int p3)] := hl
  have hinX10 : ∀ w ∈ u_ws RX10 TX10 6, w ∈ wsX10_staleBy := fun w h => List.mem_cons_of_mem _ (List.mem_append_left _ (List.mem_append_right _ h))
  refine lv_iconst (v := 0) hx hb dX10_staleBy_0 (by decide) ?_
  refine lv_istore (lv' := [(4, .int 0), (0, .ref a0), (1, .int p1), (2, .int p2), (3, .int p3)]) hx hb dX10_staleBy_1 hl (by decide) rfl (fun ls hl => ?_)
  have L3_100 : ∀ (n : Nat) (k3_4 : Int32), (0 ≤ k3_4.toInt ∧ k3_4.toInt ≤ 5000) → (v_a0_logged.toInt + 1 - k3_4.toInt).toNat < n → ∀ (H : Heap) (locs : List Loc), va_P (dC, dI) vqCl [(a0, .inr (10, [.ref a0_values, .ref a0_versions, .ref a0_logKeys, .ref a0_logVersions, .ref a0_logMinutes, .int v_a0_logged])), (a0_logKeys, .inl (cI, 400, .inl f_a0_logKeys)), (a0_logVersions, .inl (cI, 400, .inl f_a0_logVersions)), (a0_logMinutes, .inl (cI, 400, .inl f_a0_logMinutes))] H → va_S A s.heap H locs → ∀ ls : Array Slot, lv_has ls 5 [(4, .int k3_4), (0, .ref a0), (1, .int p1), (2, .int p2), (3, .int p3)] → W p l e ({ frames := 1, cells := 0, slots := 0, locals := 0 } : Room) s m args below meth c H locs 0 0 Q (F0 m 3 ls []) := by
    intro n
    induction n with
    | zero =>
      intro k3_4 bk3_4 hm
      exact absurd hm (Nat.not_lt_zero _)
    | succ n ih3 =>
      intro k3_4 bk3_4 hm H locs hP hS ls hl
      refine lv_iload hx hb dX10_staleBy_3 (lv_at hl 0 rfl) ?_
      refine lv_aload_n hx hb dX10_staleBy_5 rfl (lv_at hl 1 rfl) ?_
      refine va_get (D := (dC, dI)) (ci := 10) (v := .int v_a0_logged) (C := RX10) (T := TX10) (N := 6) hx hb hts hinX10 hown hK hP 0 rfl rfl 5 (by decide) (hts (.fieldLink RX10 27 "SlipstreamCache$Store" "logged" "I") (List.mem_of_getElem? (i := 1) rfl)) (fun _ h9 => h9) rfl dX10_staleBy_6 ?_
      refine lv_icmp_ge (tgt := 52) hx hb dX10_staleBy_9 (by decide) (fun c102 => ?_) (fun c102 => ?_)
      · have c102 := c_le c102
        refine lv_iconst (v := 0) hx hb dX10_staleBy_52 (by decide) ?_
        subst hQ
        exact W.iret (v := (0 : Int32)) hx hb hr (fun t ht hW => ⟨⟨(0 : Int32), (), rfl, ⟨iv_m (iv_k 0 (k := 0) (by decide)) (by decide) (by decide), (by have k0 : (0 : Int32).toInt = 0 := (by decide); show ∀ m : Int32, TI p3.toInt v_a0_logged.toInt f_a0_logKeys f_a0_logVersions f_a0_logMinutes p1 p2 m → (0 : Int32).toInt ≤ p3.toInt - m.toInt; intro m h; have h1 := h.1; omega), trivial⟩, pAt ht hP⟩, hS.F ht⟩) hS.2.2 dX10_staleBy_53
      · have c102 := c_nle c102
        have bk3_4_c102 : 0 ≤ k3_4.toInt ∧ k3_4.toInt ≤ 399 := u_lt bk3_4 bv_a0_logged c102 (by decide) (by decide)
        have bv_a0_logged_c102 : 1 ≤ v_a0_logged.toInt ∧ v_a0_logged.toInt ≤ 400 := l_lt bv_a0_logged bk3_4_c102 c102 (by decide) (by decide)
        refine lv_aload_n hx hb dX10_staleBy_12 rfl (lv_at hl 1 rfl) ?_
        refine va_get (D := (dC, dI)) (ci := 10) (v := .ref a0_logKeys) (C := RX10) (T := TX10) (N := 6) hx hb hts hinX10 hown hK hP 0 rfl rfl 2 (by decide) (hts (.fieldLink RX10 18 "SlipstreamCache$Store" "logKeys" "[I") (List.mem_of_getElem? (i := 2) rfl)) (fun _ h9 => h9) rfl dX10_staleBy_13 ?_
        refine lv_iload hx hb dX10_staleBy_16 (lv_at hl 0 rfl) ?_
        refine va_iald hx hb hK hP 1 0 rfl rfl (iv_in bk3_4_c102 (by decide) (by decide)) dX10_staleBy_18 ?_
        refine lv_topi (fun z103 ez103 => ?_)
        have bz103 : 0 ≤ z103.toInt ∧ z103.toInt ≤ 31 := iv_at rf_a0_logKeys bk3_4_c102 (by decide) (by decide) ez103
        refine lv_iload_n hx hb dX10_staleBy_19 rfl (lv_at hl 2 rfl) ?_
        refine lv_icmp_ne (tgt := 46) hx hb dX10_staleBy_20 (by decide) (fun c104 => ?_) (fun c104 => ?_)
        · have c104 := c_ne c104
          obtain ⟨z105, ez105⟩ : ∃ y : Int32, y = k3_4 + 1 := ⟨_, rfl⟩
          refine lv_iinc (v := z105) (lv' := [(4, .int z105), (0, .ref a0), (1, .int p1), (2, .int p2), (3, .int p3)]) hx hb dX10_staleBy_46 hl (k := 0) rfl (by rw [ez105]; rfl) (by decide) rfl (fun ls hl => ?_)
          have qz105 := iv_add (lo := 1) (hi := 400) ez105 bk3_4_c102 (iv_k 1 (k := 1) (by decide)) (by decide) (by decide) (by decide) (by decide)
          try rw [show (1 : Int32).toInt = 1 from rfl] at qz105
          refine lv_goto (tgt := 3) hx hb dX10_staleBy_49 (by decide) ?_
          exact ih3 z105 (iv_m qz105.2 (by decide) (by decide)) (by omega) _ _ hP hS ls (lv_sub hl [0, 1, 2, 3, 4] rfl)
        · have c104 := c_eq c104
          refine lv_aload_n hx hb dX10_staleBy_23 rfl (lv_at hl 1 rfl) ?_
          refine va_get (D := (dC, dI)) (ci := 10) (v := .ref a0_logVersions) (C := RX10) (T := TX10) (N := 6) hx hb hts hinX10 hown hK hP 0 rfl rfl 3 (by decide) (hts (.fieldLink RX10 21 "SlipstreamCache$Store" "logVersions" "[I") (List.mem_of_getElem? (i := 3) rfl)) (fun _ h9 => h9) rfl dX10_staleBy_24 ?_
          refine lv_iload hx hb dX10_staleBy_27 (lv_at hl 0 rfl) ?_
          refine va_iald hx hb hK hP 2 0 rfl rfl (iv_in bk3_4_c102 (by decide) (by decide)) dX10_staleBy_29 ?_
          refine lv_topi (fun z106 ez106 => ?_)
          refine lv_iload_n hx hb dX10_staleBy_30 rfl (lv_at hl 3 rfl) ?_
          refine lv_iconst (v := 1) hx hb dX10_staleBy_31 (by decide) ?_
          refine lv_iadd hx hb dX10_staleBy_32 ?_
          refine lv_topi (fun z107 ez107 => ?_)
          refine lv_icmp_ne (tgt := 46) hx hb dX10_staleBy_33 (by decide) (fun c108 => ?_) (fun c108 => ?_)
          · have c108 := c_ne c108
            obtain ⟨z109, ez109⟩ : ∃ y : Int32, y = k3_4 + 1 := ⟨_, rfl⟩
            refine lv_iinc (v := z109) (lv' := [(4, .int z109), (0, .ref a0), (1, .int p1), (2, .int p2), (3, .int p3)]) hx hb dX10_staleBy_46 hl (k := 0) rfl (by rw [ez109]; rfl) (by decide) rfl (fun ls hl => ?_)
            have qz109 := iv_add (lo := 1) (hi := 400) ez109 bk3_4_c102 (iv_k 1 (k := 1) (by decide)) (by decide) (by decide) (by decide) (by decide)
            try rw [show (1 : Int32).toInt = 1 from rfl] at qz109
            refine lv_goto (tgt := 3) hx hb dX10_staleBy_49 (by decide) ?_
            exact ih3 z109 (iv_m qz109.2 (by decide) (by decide)) (by omega) _ _ hP hS ls (lv_sub hl [0, 1, 2, 3, 4] rfl)
          · have c108 := c_eq c108
            refine lv_iload_n hx hb dX10_staleBy_36 rfl (lv_at hl 4 rfl) ?_
            refine lv_aload_n hx hb dX10_staleBy_37 rfl (lv_at hl 1 rfl) ?_
            refine va_get (D := (dC, dI)) (ci := 10) (v := .ref a0_logMinutes) (C := RX10) (T := TX10) (N := 6) hx hb hts hinX10 hown hK hP 0 rfl rfl 4 (by decide) (hts (.fieldLink RX10 24 "SlipstreamCache$Store" "logMinutes" "[I") (List.mem_of_getElem? (i := 4) rfl)) (fun _ h9 => h9) rfl dX10_staleBy_38 ?_
            refine lv_iload hx hb dX10_staleBy_41 (lv_at hl 0 rfl) ?_
            refine va_iald hx hb hK hP 3 0 rfl rfl (iv_in bk3_4_c102 (by decide) (by decide)) dX10_staleBy_43 ?_
            refine lv_topi (fun z110 ez110 => ?_)
            have bz110 : 0 ≤ z110.toInt ∧ z110.toInt ≤ 5000 := iv_at rf_a0_logMinutes bk3_4_c102 (by decide) (by decide) ez110
            refine lv_isub hx hb dX10_staleBy_44 ?_
            refine lv_topi (fun z111 ez111 => ?_)
            have qz111 := iv_sub (lo := (-5000)) (hi := 5000) ez111 bp3 bz110 (by decide) (by decide) (by decide) (by decide) 
            subst hQ
            exact W.iret (v := z111) hx hb hr (fun t ht hW => ⟨⟨z111, (), rfl, ⟨iv_m qz111.2 (by decide) (by decide), (by show ∀ m : Int32, TI p3.toInt v_a0_logged.toInt f_a0_logKeys f_a0_logVersions f_a0_logMinutes p1 p2 m → z111.toInt ≤ p3.toInt - m.toInt; intro m h; have h9 := TI.stale h (at1 := k3_4) (by omega) (by omega) ez103 (by omega) ez106 ez107 (by omega) ez110; omega), trivial⟩, pAt ht hP⟩, hS.F ht⟩) hS.2.2 dX10_staleBy_45
  exact L3_100 _ (0 : Int32) (iv_m (iv_k 0 (k := 0) (by decide)) (by decide) (by decide)) (Nat.lt_succ_self _) _ _ hP hS ls (lv_sub hl [0, 1, 2, 3, 4] rfl)
set_option maxHeartbeats 4000000 in
set_option maxRecDepth 100000 in
theorem kX0_tell_1 (l : Launch) (dC : Nat → ClassId) (dI : Nat → Nat → Nat) (cI cZ cC cJ cD : ClassId) (qf : Nat) (a0 : Nat) (sz : Nat) (v_a0_hasLast v_a0_lastValue v_a0_lastStaleness v_a0_asked v_a0_answered v_a0_tooStale p1 p2 p3 : Int32) (v_a0_staleMinutes : Int64) (bv_a0_hasLast : 0 ≤ v_a0_hasLast.toInt ∧ v_a0_hasLast.toInt ≤ 1) (bv_a0_tooStale : 0 ≤ v_a0_tooStale.toInt ∧ v_a0_tooStale.toInt ≤ 0) (bp2 : (-5000) ≤ p2.toInt ∧ p2.toInt ≤ 5000) (bp3 : 0 ≤ p3.toInt ∧ p3.toInt ≤ 60) (Y0 : p2.toInt ≤ p3.toInt) : Met l yX0_tell wsX0_tell ({ frames := 1, cells := 0, slots := 0, locals := 0 } : Room) (mPre qf [.ref a0, .int p1, .int p2, .int p3] sz (dC, dI) (mT cI cZ cC cJ cD) [(a0, .inr (0, [.int v_a0_hasLast, .int v_a0_lastValue, .int v_a0_lastStaleness, .int v_a0_asked, .int v_a0_answered, .long v_a0_staleMinutes, .int v_a0_tooStale]))]) (mQv (fun (u : (Int32) × (Int32) × (Int32) × (Int32) × (Int32) × (Int64) × (Int32)) => (1 ≤ (u.1).toInt ∧ (u.1).toInt ≤ 1) ∧ ((-5000) ≤ (u.2.2.1).toInt ∧ (u.2.2.1).toInt ≤ 60) ∧ (0 ≤ (u.2.2.2.2.2.2).toInt ∧ (u.2.2.2.2.2.2).toInt ≤ 0) ∧ True) (fun (u : (Int32) × (Int32) × (Int32) × (Int32) × (Int32) × (Int64) × (Int32)) => [(a0, .inr (0, [.int (u.1), .int (u.2.1), .int (u.2.2.1), .int (u.2.2.2.1), .int (u.2.2.2.2.1), .long (u.2.2.2.2.2.1), .int (u.2.2.2.2.2.2)]))]) (dC, dI) (va_A [(a0, .inr (0, [.int v_a0_hasLast, .int v_a0_lastValue, .int v_a0_lastStaleness, .int v_a0_asked, .int v_a0_answered, .long v_a0_staleMinutes, .int v_a0_tooStale]))] sz)) 0 0 (va_A [(a0, .inr (0, [.int v_a0_hasLast, .int v_a0_lastValue, .int v_a0_lastStaleness, .int v_a0_asked, .int v_a0_answered, .long v_a0_staleMinutes, .int v_a0_tooStale]))] sz) := by
  refine mMet (Qc := fun A => mQv (fun (u : (Int32) × (Int32) × (Int32) × (Int32) × (Int32) × (Int64) × (Int32)) => (1 ≤ (u.1).toInt ∧ (u.1).toInt ≤ 1) ∧ ((-5000) ≤ (u.2.2.1).toInt ∧ (u.2.2.1).toInt ≤ 60) ∧ (0 ≤ (u.2.2.2.2.2.2).toInt ∧ (u.2.2.2.2.2.2).toInt ≤ 0) ∧ True) (fun (u : (Int32) × (Int32) × (Int32) × (Int32) × (Int32) × (Int64) × (Int32)) => [(a0, .inr (0, [.int (u.1), .int (u.2.1), .int (u.2.2.1), .int (u.2.2.2.1), .int (u.2.2.2.2.1), .long (u.2.2.2.2.2.1), .int (u.2.2.2.2.2.2)]))]) (dC, dI) A) (y := yX0_tell) (ws := wsX0_tell) (av := [.ref a0, .int p1, .int p2, .int p3]) (wc := [(a0, .inr (0, [.int v_a0_hasLast, .int v_a0_lastValue, .int v_a0_lastStaleness, .int v_a0_asked, .int v_a0_answered, .long v_a0_staleMinutes, .int v_a0_tooStale]))]) (cc := cX0_tell) (maxL := 4) (ret := none) (own := RX0) (by decide) rfl rfl (Nat.le_of_ble_eq_true rfl) ?_
  intro p e s m args below meth c hx hb hr hts hown hml hlk A hsz hP hK hD hS hA hE ls hl Q hQ
  have hl : lv_has ls 4 [(0, .ref a0), (1, .int p1), (2, .int p2), (3, .int p3)] := hl
  have hinX0 : ∀ w ∈ u_ws RX0 TX0 7, w ∈ wsX0_tell := fun w h => List.mem_cons_of_mem _ (List.mem_append_right _ h)
  refine lv_aload_n hx hb dX0_tell_0 rfl (lv_at hl 0 rfl) ?_
  refine lv_dup hx hb dX0_tell_1 rfl ?_
  refine va_get (D := (dC, dI)) (ci := 0) (v := .int v_a0_asked) (C := RX0) (T := TX0) (N := 7) hx hb hts hinX0 hown hK hP 0 rfl rfl 3 (by decide) (hts (.fieldLink RX0 20 "SlipstreamCache$Answers" "asked" "I") (List.mem_of_getElem? (i := 1) rfl)) (fun _ h9 => h9) rfl dX0_tell_2 ?_
  refine lv_iconst (v := 1) hx hb dX0_tell_5 (by decide) ?_
  refine lv_iadd hx hb dX0_tell_6 ?_
  refine lv_topi (fun z101 ez101 => ?_)
  refine va_put (D := (dC, dI)) (ci := 0) (v := .int z101) (ty := .int) (C := RX0) (T := TX0) (N := 7) hx hb hts hinX0 tyX0 tyX0_ok nmX0 hown hK hP (hD.to rfl) hS 0 rfl rfl 3 (by decide) (hts (.fieldLink RX0 20 "SlipstreamCache$Answers" "asked" "I") (List.mem_of_getElem? (i := 1) rfl)) (fun _ h9 => h9) rfl (by decide +kernel) rfl rfl (Nat.le_of_ble_eq_true rfl) dX0_tell_7 (fun H locs hP _ hS => ?_)
  have hP : va_P (dC, dI) vqCl [(a0, .inr (0, [.int v_a0_hasLast, .int v_a0_lastValue, .int v_a0_lastStaleness, .int z101, .int v_a0_answered, .long v_a0_staleMinutes, .int v_a0_tooStale]))] H := hP
  refine lv_aload_n hx hb dX0_tell_10 rfl (lv_at hl 0 rfl) ?_
  refine lv_dup hx hb dX0_tell_11 rfl ?_
  refine va_get (D := (dC, dI)) (ci := 0) (v := .int v_a0_answered) (C := RX0) (T := TX0) (N := 7) hx hb hts hinX0 hown hK hP 0 rfl rfl 4 (by decide) (hts (.fieldLink RX0 23 "SlipstreamCache$Answers" "answered" "I") (List.mem_of_getElem? (i := 2) rfl)) (fun _ h9 => h9) rfl dX0_tell_12 ?_
  refine lv_iconst (v := 1) hx hb dX0_tell_15 (by decide) ?_
  refine lv_iadd hx hb dX0_tell_16 ?_
  refine lv_topi (fun z102 ez102 => ?_)
  refine va_put (D := (dC, dI)) (ci := 0) (v := .int z102) (ty := .int) (C := RX0) (T := TX0) (N := 7) hx hb hts hinX0 tyX0 tyX0_ok nmX0 hown hK hP (hD.to rfl) hS 0 rfl rfl 4 (by decide) (hts (.fieldLink RX0 23 "SlipstreamCache$Answers" "answered" "I") (List.mem_of_getElem? (i := 2) rfl)) (fun _ h9 => h9) rfl (by decide +kernel) rfl rfl (Nat.le_of_ble_eq_true rfl) dX0_tell_17 (fun H locs hP _ hS => ?_)
  have hP : va_P (dC, dI) vqCl [(a0, .inr (0, [.int v_a0_hasLast, .int v_a0_lastValue, .int v_a0_lastStaleness, .int z101, .int z102, .long v_a0_staleMinutes, .int v_a0_tooStale]))] H := hP
  refine lv_aload_n hx hb dX0_tell_20 rfl (lv_at hl 0 rfl) ?_
  refine lv_iconst (v := 1) hx hb dX0_tell_21 (by decide) ?_
  refine va_put (D := (dC, dI)) (ci := 0) (v := .int 1) (ty := .boolean) (C := RX0) (T := TX0) (N := 7) hx hb hts hinX0 tyX0 tyX0_ok nmX0 hown hK hP (hD.to rfl) hS 0 rfl rfl 0 (by decide) (hts (.fieldLink RX0 7 "SlipstreamCache$Answers" "hasLast" "Z") (List.mem_of_getElem? (i := 3) rfl)) (fun _ h9 => h9) rfl (by decide +kernel) rfl rfl (Nat.le_of_ble_eq_true rfl) dX0_tell_22 (fun H locs hP _ hS => ?_)
  have hP : va_P (dC, dI) vqCl [(a0, .inr (0, [.int 1, .int v_a0_lastValue, .int v_a0_lastStaleness, .int z101, .int z102, .long v_a0_staleMinutes, .int v_a0_tooStale]))] H := hP
  refine lv_aload_n hx hb dX0_tell_25 rfl (lv_at hl 0 rfl) ?_
  refine lv_iload_n hx hb dX0_tell_26 rfl (lv_at hl 1 rfl) ?_
  refine va_put (D := (dC, dI)) (ci := 0) (v := .int p1) (ty := .int) (C := RX0) (T := TX0) (N := 7) hx hb hts hinX0 tyX0 tyX0_ok nmX0 hown hK hP (hD.to rfl) hS 0 rfl rfl 1 (by decide) (hts (.fieldLink RX0 13 "SlipstreamCache$Answers" "lastValue" "I") (List.mem_of_getElem? (i := 4) rfl)) (fun _ h9 => h9) rfl (by decide +kernel) rfl rfl (Nat.le_of_ble_eq_true rfl) dX0_tell_27 (fun H locs hP _ hS => ?_)
  have hP : va_P (dC, dI) vqCl [(a0, .inr (0, [.int 1, .int p1, .int v_a0_lastStaleness, .int z101, .int z102, .long v_a0_staleMinutes, .int v_a0_tooStale]))] H := hP
  refine lv_aload_n hx hb dX0_tell_30 rfl (lv_at hl 0 rfl) ?_
  refine lv_iload_n hx hb dX0_tell_31 rfl (lv_at hl 2 rfl) ?_
  refine va_put (D := (dC, dI)) (ci := 0) (v := .int p2) (ty := .int) (C := RX0) (T := TX0) (N := 7) hx hb hts hinX0 tyX0 tyX0_ok nmX0 hown hK hP (hD.to rfl) hS 0 rfl rfl 2 (by decide) (hts (.fieldLink RX0 17 "SlipstreamCache$Answers" "lastStaleness" "I") (List.mem_of_getElem? (i := 5) rfl)) (fun _ h9 => h9) rfl (by decide +kernel) rfl rfl (Nat.le_of_ble_eq_true rfl) dX0_tell_32 (fun H locs hP _ hS => ?_)
  have hP : va_P (dC, dI) vqCl [(a0, .inr (0, [.int 1, .int p1, .int p2, .int z101, .int z102, .long v_a0_staleMinutes, .int v_a0_tooStale]))] H := hP
  refine lv_aload_n hx hb dX0_tell_35 rfl (lv_at hl 0 rfl) ?_
  refine lv_dup hx hb dX0_tell_36 rfl ?_
  refine va_get (D := (dC, dI)) (ci := 0) (v := .long v_a0_staleMinutes) (C := RX0) (T := TX0) (N := 7) hx hb hts hinX0 hown hK hP 0 rfl rfl 5 (by decide) (hts (.fieldLink RX0 26 "SlipstreamCache$Answers" "staleMinutes" "J") (List.mem_of_getElem? (i := 6) rfl)) (fun _ h9 => h9) rfl dX0_tell_37 ?_
  refine lv_iload_n hx hb dX0_tell_40 rfl (lv_at hl 2 rfl) ?_
  obtain ⟨z103, ez103⟩ : ∃ y : Int64, y = (p2).toInt64 := ⟨_, rfl⟩
  refine lv_i2l (v := z103) hx hb dX0_tell_41 ez103.symm ?_
  have bz103 : (-5000) ≤ z103.toInt ∧ z103.toInt ≤ 5000 := iv_i2l ez103 bp2
  refine lv_ladd hx hb dX0_tell_42 ?_
  refine lv_topl (fun z104 ez104 => ?_)
  refine va_put (D := (dC, dI)) (ci := 0) (v := .long z104) (ty := .long) (C := RX0) (T := TX0) (N := 7) hx hb hts hinX0 tyX0 tyX0_ok nmX0 hown hK hP (hD.to rfl) hS 0 rfl rfl 5 (by decide) (hts (.fieldLink RX0 26 "SlipstreamCache$Answers" "staleMinutes" "J") (List.mem_of_getElem? (i := 6) rfl)) (fun _ h9 => h9) rfl (by decide +kernel) rfl rfl (Nat.le_of_ble_eq_true rfl) dX0_tell_43 (fun H locs hP _ hS => ?_)
  have hP : va_P (dC, dI) vqCl [(a0, .inr (0, [.int 1, .int p1, .int p2, .int z101, .int z102, .long z104, .int v_a0_tooStale]))] H := hP
  refine lv_aload_n hx hb dX0_tell_46 rfl (lv_at hl 0 rfl) ?_
  refine lv_aload_n hx hb dX0_tell_47 rfl (lv_at hl 0 rfl) ?_
  refine va_get (D := (dC, dI)) (ci := 0) (v := .int v_a0_tooStale) (C := RX0) (T := TX0) (N := 7) hx hb hts hinX0 hown hK hP 0 rfl rfl 6 (by decide) (hts (.fieldLink RX0 30 "SlipstreamCache$Answers" "tooStale" "Z") (List.mem_of_getElem? (i := 7) rfl)) (fun _ h9 => h9) rfl dX0_tell_48 ?_
  refine lv_if_ne (tgt := 59) hx hb dX0_tell_51 (by decide) (fun c => (z_ne bv_a0_tooStale (iv_k 0 (k := 0) (by decide)) (c_ne c) (by decide)).elim) (fun c105 => ?_)
  have c105 := c_eq c105
  refine lv_iload_n hx hb dX0_tell_54 rfl (lv_at hl 2 rfl) ?_
  refine lv_iload_n hx hb dX0_tell_55 rfl (lv_at hl 3 rfl) ?_
  refine lv_icmp_le (tgt := 63) hx hb dX0_tell_56 (by decide) (fun c106 => ?_) (fun c106 => ?_)
  · have c106 := c_le c106
    have bp2_c106 : (-5000) ≤ p2.toInt ∧ p2.toInt ≤ 60 := u_le bp2 bp3 c106 (by decide) (by decide)
    refine lv_iconst (v := 0) hx hb dX0_tell_63 (by decide) ?_
    refine va_put (D := (dC, dI)) (ci := 0) (v := .int 0) (ty := .boolean) (C := RX0) (T := TX0) (N := 7) hx hb hts hinX0 tyX0 tyX0_ok nmX0 hown hK hP (hD.to rfl) hS 0 rfl rfl 6 (by decide) (hts (.fieldLink RX0 30 "SlipstreamCache$Answers" "tooStale" "Z") (List.mem_of_getElem? (i := 7) rfl)) (fun _ h9 => h9) rfl (by decide +kernel) rfl rfl (Nat.le_of_ble_eq_true rfl) dX0_tell_64 (fun H locs hP _ hS => ?_)
    have hP : va_P (dC, dI) vqCl [(a0, .inr (0, [.int 1, .int p1, .int p2, .int z101, .int z102, .long z104, .int 0]))] H := hP
    subst hQ
    exact W.vret hx hb hr (fun t ht hW => ⟨⟨((1 : Int32), p1, p2, z101, z102, z104, (0 : Int32)), rfl, ⟨iv_m (iv_k 1 (k := 1) (by decide)) (by decide) (by decide), iv_m bp2_c106 (by decide) (by decide), iv_m (iv_k 0 (k := 0) (by decide)) (by decide) (by decide), trivial⟩, pAt ht hP⟩, hS.F ht⟩) hS.2.2 dX0_tell_67
  · have c106 := c_nle c106
    have bp2_c106 : 1 ≤ p2.toInt ∧ p2.toInt ≤ 5000 := l_lt bp2 bp3 c106 (by decide) (by decide)
    exfalso; omega
set_option maxHeartbeats 4000000 in
set_option maxRecDepth 100000 in
theorem kX1_clear_1 (l : Launch) (dC : Nat → ClassId) (dI : Nat → Nat → Nat) (cI cZ cC cJ cD : ClassId) (qf : Nat) (a0 a0_chosen a0_worths a0_order : Nat) (sz : Nat) (f_a0_chosen : Nat → Int32) (v_a0_count v_a0_sum : Int32) (rf_a0_chosen : rg 0 1 32 f_a0_chosen) (bv_a0_count : 0 ≤ v_a0_count.toInt ∧ v_a0_count.toInt ≤ 32) : Met l yX1_clear wsX1_clear ({ frames := 1, cells := 0, slots := 0, locals := 0 } : Room) (mPre qf [.ref a0] sz (dC, dI) (mT cI cZ cC cJ cD) [(a0, .inr (1, [.ref a0_chosen, .ref a0_worths, .ref a0_order, .int v_a0_count, .int v_a0_sum])), (a0_chosen, .inl (cZ, 32, .inl f_a0_chosen))]) (mQv (fun (u : (Int32) × (Int32) × (Nat → Int32)) => (0 ≤ (u.1).toInt ∧ (u.1).toInt ≤ 0) ∧ (0 ≤ (u.2.1).toInt ∧ (u.2.1).toInt ≤ 0) ∧ rg 0 1 32 (u.2.2) ∧ ((u.1).toInt = 0) ∧ True) (fun (u : (Int32) × (Int32) × (Nat → Int32)) => [(a0, .inr (1, [.ref a0_chosen, .ref a0_worths, .ref a0_order, .int (u.1), .int (u.2.1)])), (a0_chosen, .inl (cZ, 32, .inl (u.2.2)))]) (dC, dI) (va_A [(a0, .inr (1, [.ref a0_chosen, .ref a0_worths, .ref a0_order, .int v_a0_count, .int v_a0_sum])), (a0_chosen, .inl (cZ, 32, .inl f_a0_chosen))] sz)) 0 0 (va_A [(a0, .inr (1, [.ref a0_chosen, .ref a0_worths, .ref a0_order, .int v_a0_count, .int v_a0_sum])), (a0_chosen, .inl (cZ, 32, .inl f_a0_chosen))] sz) := by
  refine mMet (Qc := fun A => mQv (fun (u : (Int32) × (Int32) × (Nat → Int32)) => (0 ≤ (u.1).toInt ∧ (u.1).toInt ≤ 0) ∧ (0 ≤ (u.2.1).toInt ∧ (u.2.1).toInt ≤ 0) ∧ rg 0 1 32 (u.2.2) ∧ ((u.1).toInt = 0) ∧ True) (fun (u : (Int32) × (Int32) × (Nat → Int32)) => [(a0, .inr (1, [.ref a0_chosen, .ref a0_worths, .ref a0_order, .int (u.1), .int (u.2.1)])), (a0_chosen, .inl (cZ, 32, .inl (u.2.2)))]) (dC, dI) A) (y := yX1_clear) (ws := wsX1_clear) (av := [.ref a0]) (wc := [(a0, .inr (1, [.ref a0_chosen, .ref a0_worths, .ref a0_order, .int v_a0_count, .int v_a0_sum])), (a0_chosen, .inl (cZ, 32, .inl f_a0_chosen))]) (cc := cX1_clear) (maxL := 2) (ret := none) (own := RX1) (by decide) rfl rfl (Nat.le_of_ble_eq_true rfl) ?_
  intro p e s m args below meth c hx hb hr hts hown hml hlk A hsz hP hK hD hS hA hE ls hl Q hQ
  have hl : lv_has ls 2 [(0, .ref a0)] := hl
  have hinX1 : ∀ w ∈ u_ws RX1 TX1 5, w ∈ wsX1_clear := fun w h => List.mem_cons_of_mem _ (List.mem_append_left _ (List.mem_append_right _ h))
  refine lv_aload_n hx hb dX1_clear_0 rfl (lv_at hl 0 rfl) ?_
  refine lv_iconst (v := 0) hx hb dX1_clear_1 (by decide) ?_
  refine va_put (D := (dC, dI)) (ci := 1) (v := .int 0) (ty := .int) (C := RX1) (T := TX1) (N := 5) hx hb hts hinX1 tyX1 tyX1_ok nmX1 hown hK hP (hD.to rfl) hS 0 rfl rfl 3 (by decide) (hts (.fieldLink RX1 22 "SlipstreamCache$Choice" "count" "I") (List.mem_of_getElem? (i := 1) rfl)) (fun _ h9 => h9) rfl (by decide +kernel) rfl rfl (Nat.le_of_ble_eq_true rfl) dX1_clear_2 (fun H locs hP _ hS => ?_)
  have hP : va_P (dC, dI) vqCl [(a0, .inr (1, [.ref a0_chosen, .ref a0_worths, .ref a0_order, .int 0, .int v_a0_sum])), (a0_chosen, .inl (cZ, 32, .inl f_a0_chosen))] H := hP
  refine lv_aload_n hx hb dX1_clear_5 rfl (lv_at hl 0 rfl) ?_
  refine lv_iconst (v := 0) hx hb dX1_clear_6 (by decide) ?_
  refine va_put (D := (dC, dI)) (ci := 1) (v := .int 0) (ty := .int) (C := RX1) (T := TX1) (N := 5) hx hb hts hinX1 tyX1 tyX1_ok nmX1 hown hK hP (hD.to rfl) hS 0 rfl rfl 4 (by decide) (hts (.fieldLink RX1 26 "SlipstreamCache$Choice" "sum" "I") (List.mem_of_getElem? (i := 2) rfl)) (fun _ h9 => h9) rfl (by decide +kernel) rfl rfl (Nat.le_of_ble_eq_true rfl) dX1_clear_7 (fun H locs hP _ hS => ?_)
  have hP : va_P (dC, dI) vqCl [(a0, .inr (1, [.ref a0_chosen, .ref a0_worths, .ref a0_order, .int 0, .int 0])), (a0_chosen, .inl (cZ, 32, .inl f_a0_chosen))] H := hP
  refine lv_iconst (v := 0) hx hb dX1_clear_10 (by decide) ?_
  refine lv_istore_n (lv' := [(1, .int 0), (0, .ref a0)]) hx hb dX1_clear_11 rfl hl (by decide) rfl (fun ls hl => ?_)
  have L12_100 : ∀ (n : Nat) (k12_1 : Int32) (f12_a0_chosen : Nat → Int32), (0 ≤ k12_1.toInt ∧ k12_1.toInt ≤ 64) → (rg 0 1 32 f12_a0_chosen) → (32 + 1 - k12_1.toInt).toNat < n → ∀ (H : Heap) (locs : List Loc), va_P (dC, dI) vqCl [(a0, .inr (1, [.ref a0_chosen, .ref a0_worths, .ref a0_order, .int 0, .int 0])), (a0_chosen, .inl (cZ, 32, .inl f12_a0_chosen))] H → va_S A s.heap H locs → ∀ ls : Array Slot, lv_has ls 2 [(1, .int k12_1), (0, .ref a0)] → W p l e ({ frames := 1, cells := 0, slots := 0, locals := 0 } : Room) s m args below meth c H locs 0 0 Q (F0 m 12 ls []) := by
    intro n
    induction n with
    | zero =>
      intro k12_1 f12_a0_chosen bk12_1 rf12_a0_chosen hm
      exact absurd hm (Nat.not_lt_zero _)
    | succ n ih12 =>
      intro k12_1 f12_a0_chosen bk12_1 rf12_a0_chosen hm H locs hP hS ls hl
      refine lv_iload_n hx hb dX1_clear_12 rfl (lv_at hl 0 rfl) ?_
      refine lv_bipush (v := 32) hx hb dX1_clear_13 (by decide) ?_
      refine lv_icmp_ge (tgt := 31) hx hb dX1_clear_15 (by decide) (fun c102 => ?_) (fun c102 => ?_)
      · have c102 := c_le c102
        have bk12_1_c102 : 32 ≤ k12_1.toInt ∧ k12_1.toInt ≤ 64 := l_le bk12_1 (iv_k 32 (k := 32) (by decide)) c102 (by decide) (by decide)
        subst hQ
        exact W.vret hx hb hr (fun t ht hW => ⟨⟨((0 : Int32), (0 : Int32), f12_a0_chosen), rfl, ⟨iv_m (iv_k 0 (k := 0) (by decide)) (by decide) (by decide), iv_m (iv_k 0 (k := 0) (by decide)) (by decide) (by decide), rg.mono rf12_a0_chosen (by decide) (by decide), (by have k0 : (0 : Int32).toInt = 0 := (by decide); show (0 : Int32).toInt = 0; omega), trivial⟩, pAt ht hP⟩, hS.F ht⟩) hS.2.2 dX1_clear_31
      · have c102 := c_nle c102
        have bk12_1_c102 : 0 ≤ k12_1.toInt ∧ k12_1.toInt ≤ 31 := u_lt bk12_1 (iv_k 32 (k := 32) (by decide)) c102 (by decide) (by decide)
        refine lv_aload_n hx hb dX1_clear_18 rfl (lv_at hl 1 rfl) ?_
        refine va_get (D := (dC, dI)) (ci := 1) (v := .ref a0_chosen) (C := RX1) (T := TX1) (N := 5) hx hb hts hinX1 hown hK hP 0 rfl rfl 0 (by decide) (hts (.fieldLink RX1 9 "SlipstreamCache$Choice" "chosen" "[Z") (List.mem_of_getElem? (i := 3) rfl)) (fun _ h9 => h9) rfl dX1_clear_19 ?_
        refine lv_iload_n hx hb dX1_clear_22 rfl (lv_at hl 0 rfl) ?_
        refine lv_iconst (v := 0) hx hb dX1_clear_23 (by decide) ?_
        refine va_zast hx hb hK hP (hD.to rfl) hS 1 1 rfl rfl (iv_in bk12_1_c102 (by decide) (by decide)) dX1_clear_24 (fun H locs hP _ hS => ?_)
        rw [nar_bz (iv_k 0 (k := 0) (by decide)) (by decide) (by decide)] at hP
        obtain ⟨f103, ef103⟩ : ∃ y, y = upd f12_a0_chosen (k12_1).toNatClampNeg (0 : Int32) := ⟨_, rfl⟩
        rw [← ef103] at hP
        have rf103 : rg 0 1 32 f103 := by rw [ef103]; exact (rg.mono rf12_a0_chosen (by decide) (by decide)).up (iv_m (iv_k 0 (k := 0) (by decide)) (by decide) (by decide))
        have tf103 : 0 ≤ (f103 (k12_1).toNatClampNeg).toInt ∧ (f103 (k12_1).toNatClampNeg).toInt ≤ 0 := by rw [ef103, pk_us]; exact (iv_k 0 (k := 0) (by decide))
        have hP : va_P (dC, dI) vqCl [(a0, .inr (1, [.ref a0_chosen, .ref a0_worths, .ref a0_order, .int 0, .int 0])), (a0_chosen, .inl (cZ, 32, .inl f103))] H := hP
        obtain ⟨z104, ez104⟩ : ∃ y : Int32, y = k12_1 + 1 := ⟨_, rfl⟩
        refine lv_iinc (v := z104) (lv' := [(1, .int z104), (0, .ref a0)]) hx hb dX1_clear_25 hl (k := 0) rfl (by rw [ez104]; rfl) (by decide) rfl (fun ls hl => ?_)
        have qz104 := iv_add (lo := 1) (hi := 32) ez104 bk12_1_c102 (iv_k 1 (k := 1) (by decide)) (by decide) (by decide) (by decide) (by decide)
        try rw [show (1 : Int32).toInt = 1 from rfl] at qz104
        refine lv_goto (tgt := 12) hx hb dX1_clear_28 (by decide) ?_
        exact ih12 z104 f103 (iv_m qz104.2 (by decide) (by decide)) (rg.mono rf103 (by decide) (by decide)) (by omega) _ _ hP hS ls (lv_sub hl [0, 1] rfl)
  exact L12_100 _ (0 : Int32) f_a0_chosen (iv_m (iv_k 0 (k := 0) (by decide)) (by decide) (by decide)) (rg.mono rf_a0_chosen (by decide) (by decide)) (Nat.lt_succ_self _) _ _ hP hS ls (lv_sub hl [0, 1] rfl)
set_option maxHeartbeats 4000000 in
set_option maxRecDepth 100000 in
theorem kX11_leavesBefore_18 (l : Launch) (dC : Nat → ClassId) (dI : Nat → Nat → Nat) (cI cZ cC cJ cD : ClassId) (qf : Nat) (a0 a0_keys a0_store a0_mirror a0_sketch a0_memory a0_flash a0_pledges a0_leases a0_answers a0_choice a0_incoming a0_memory_copies a0_memory_present a0_memory_usedAt a0_choice_chosen a0_choice_worths a0_choice_order : Nat) (sz : Nat) (f_a0_memory_usedAt : Nat → Int32) (f_a0_choice_worths : Nat → Int32) (v_a0_now v_a0_down v_a0_memory_uses v_a0_memory_filled v_a0_choice_count v_a0_choice_sum p1 p2 : Int32) (bv_a0_now : 0 ≤ v_a0_now.toInt ∧ v_a0_now.toInt ≤ 5000) (bv_a0_down : 0 ≤ v_a0_down.toInt ∧ v_a0_down.toInt ≤ 1) (bv_a0_memory_filled : 0 ≤ v_a0_memory_filled.toInt ∧ v_a0_memory_filled.toInt ≤ 12) (bv_a0_choice_count : 0 ≤ v_a0_choice_count.toInt ∧ v_a0_choice_count.toInt ≤ 32) (bp1 : 0 ≤ p1.toInt ∧ p1.toInt ≤ 31) (bp2 : 0 ≤ p2.toInt ∧ p2.toInt ≤ 31) : Met l yX11_leavesBefore wsX11_leavesBefore ({ frames := 1, cells := 0, slots := 0, locals := 0 } : Room) (mPre qf [.ref a0, .int p1, .int p2] sz (dC, dI) (mT cI cZ cC cJ cD) [(a0, .inr (11, [.ref a0_keys, .ref a0_store, .ref a0_mirror, .ref a0_sketch, .ref a0_memory, .ref a0_flash, .ref a0_pledges, .ref a0_leases, .ref a0_answers, .ref a0_choice, .ref a0_incoming, .int v_a0_now, .int v_a0_down])), (a0_memory, .inr (6, [.ref a0_memory_copies, .ref a0_memory_present, .ref a0_memory_usedAt, .int v_a0_memory_uses, .int v_a0_memory_filled])), (a0_choice, .inr (1, [.ref a0_choice_chosen, .ref a0_choice_worths, .ref a0_choice_order, .int v_a0_choice_count, .int v_a0_choice_sum])), (a0_memory_usedAt, .inl (cI, 32, .inl f_a0_memory_usedAt)), (a0_choice_worths, .inl (cI, 32, .inl f_a0_choice_worths))]) (mQi (fun (r : Int32) (u : Unit) => (0 ≤ r.toInt ∧ r.toInt ≤ 1) ∧ True) (fun (u : Unit) => [(a0, .inr (11, [.ref a0_keys, .ref a0_store, .ref a0_mirror, .ref a0_sketch, .ref a0_memory, .ref a0_flash, .ref a0_pledges, .ref a0_leases, .ref a0_answers, .ref a0_choice, .ref a0_incoming, .int v_a0_now, .int v_a0_down])), (a0_memory, .inr (6, [.ref a0_memory_copies, .ref a0_memory_present, .ref a0_memory_usedAt, .int v_a0_memory_uses, .int v_a0_memory_filled])), (a0_choice, .inr (1, [.ref a0_choice_chosen, .ref a0_choice_worths, .ref a0_choice_order, .int v_a0_choice_count, .int v_a0_choice_sum])), (a0_memory_usedAt, .inl (cI, 32, .inl f_a0_memory_usedAt)), (a0_choice_worths, .inl (cI, 32, .inl f_a0_choice_worths))]) (dC, dI) (va_A [(a0, .inr (11, [.ref a0_keys, .ref a0_store, .ref a0_mirror, .ref a0_sketch, .ref a0_memory, .ref a0_flash, .ref a0_pledges, .ref a0_leases, .ref a0_answers, .ref a0_choice, .ref a0_incoming, .int v_a0_now, .int v_a0_down])), (a0_memory, .inr (6, [.ref a0_memory_copies, .ref a0_memory_present, .ref a0_memory_usedAt, .int v_a0_memory_uses, .int v_a0_memory_filled])), (a0_choice, .inr (1, [.ref a0_choice_chosen, .ref a0_choice_worths, .ref a0_choice_order, .int v_a0_choice_count, .int v_a0_choice_sum])), (a0_memory_usedAt, .inl (cI, 32, .inl f_a0_memory_usedAt)), (a0_choice_worths, .inl (cI, 32, .inl f_a0_choice_worths))] sz)) 0 0 (va_A [(a0, .inr (11, [.ref a0_keys, .ref a0_store, .ref a0_mirror, .ref a0_sketch, .ref a0_memory, .ref a0_flash, .ref a0_pledges, .ref a0_leases, .ref a0_answers, .ref a0_choice, .ref a0_incoming, .int v_a0_now, .int v_a0_down])), (a0_memory, .inr (6, [.ref a0_memory_copies, .ref a0_memory_present, .ref a0_memory_usedAt, .int v_a0_memory_uses, .int v_a0_memory_filled])), (a0_choice, .inr (1, [.ref a0_choice_chosen, .ref a0_choice_worths, .ref a0_choice_order, .int v_a0_choice_count, .int v_a0_choice_sum])), (a0_memory_usedAt, .inl (cI, 32, .inl f_a0_memory_usedAt)), (a0_choice_worths, .inl (cI, 32, .inl f_a0_choice_worths))] sz) := by
  refine mMet (Qc := fun A => mQi (fun (r : Int32) (u : Unit) => (0 ≤ r.toInt ∧ r.toInt ≤ 1) ∧ True) (fun (u : Unit) => [(a0, .inr (11, [.ref a0_keys, .ref a0_store, .ref a0_mirror, .ref a0_sketch, .ref a0_memory, .ref a0_flash, .ref a0_pledges, .ref a0_leases, .ref a0_answers, .ref a0_choice, .ref a0_incoming, .int v_a0_now, .int v_a0_down])), (a0_memory, .inr (6, [.ref a0_memory_copies, .ref a0_memory_present, .ref a0_memory_usedAt, .int v_a0_memory_uses, .int v_a0_memory_filled])), (a0_choice, .inr (1, [.ref a0_choice_chosen, .ref a0_choice_worths, .ref a0_choice_order, .int v_a0_choice_count, .int v_a0_choice_sum])), (a0_memory_usedAt, .inl (cI, 32, .inl f_a0_memory_usedAt)), (a0_choice_worths, .inl (cI, 32, .inl f_a0_choice_worths))]) (dC, dI) A) (y := yX11_leavesBefore) (ws := wsX11_leavesBefore) (av := [.ref a0, .int p1, .int p2]) (wc := [(a0, .inr (11, [.ref a0_keys, .ref a0_store, .ref a0_mirror, .ref a0_sketch, .ref a0_memory, .ref a0_flash, .ref a0_pledges, .ref a0_leases, .ref a0_answers, .ref a0_choice, .ref a0_incoming, .int v_a0_now, .int v_a0_down])), (a0_memory, .inr (6, [.ref a0_memory_copies, .ref a0_memory_present, .ref a0_memory_usedAt, .int v_a0_memory_uses, .int v_a0_memory_filled])), (a0_choice, .inr (1, [.ref a0_choice_chosen, .ref a0_choice_worths, .ref a0_choice_order, .int v_a0_choice_count, .int v_a0_choice_sum])), (a0_memory_usedAt, .inl (cI, 32, .inl f_a0_memory_usedAt)), (a0_choice_worths, .inl (cI, 32, .inl f_a0_choice_worths))]) (cc := cX11_leavesBefore) (maxL := 4) (ret := (some .boolean)) (own := RX11) (by decide) rfl rfl (Nat.le_of_ble_eq_true rfl) ?_
  intro p e s m args below meth c hx hb hr hts hown hml hlk A hsz hP hK hD hS hA hE ls hl Q hQ
  have hl : lv_has ls 4 [(0, .ref a0), (1, .int p1), (2, .int p2)] := hl
  have hinX11 : ∀ w ∈ u_ws RX11 TX11 13, w ∈ wsX11_leavesBefore := fun w h => List.mem_cons_of_mem _ (List.mem_append_left _ (List.mem_append_left _ (List.mem_append_left _ (List.mem_append_right _ h))))
  have hinX1 : ∀ w ∈ u_ws RX1 TX1 5, w ∈ wsX11_leavesBefore := fun w h => List.mem_cons_of_mem _ (List.mem_append_left _ (List.mem_append_left _ (List.mem_append_right _ h)))
  have hinX6 : ∀ w ∈ u_ws RX6 TX6 5, w ∈ wsX11_leavesBefore := fun w h => List.mem_cons_of_mem _ (List.mem_append_left _ (List.mem_append_right _ h))
  refine lv_aload_n hx hb dX11_leavesBefore_0 rfl (lv_at hl 0 rfl) ?_
  refine va_get (D := (dC, dI)) (ci := 11) (v := .ref a0_choice) (C := RX11) (T := TX11) (N := 13) hx hb hts hinX11 hown hK hP 0 rfl rfl 9 (by decide) (hts (.fieldLink RX11 75 "SlipstreamCache" "choice" "LSlipstreamCache$Choice;") (List.mem_of_getElem? (i := 1) rfl)) (fun _ h9 => h9) rfl dX11_leavesBefore_1 ?_
  refine va_get (D := (dC, dI)) (ci := 1) (v := .ref a0_choice_worths) (C := RX1) (T := TX1) (N := 5) hx hb hts hinX1 hown hK hP 2 rfl rfl 1 (by decide) (hts (.fieldLink RX11 393 "SlipstreamCache$Choice" "worths" "[I") (List.mem_of_getElem? (i := 2) rfl)) (fun _ h9 => h9) rfl dX11_leavesBefore_4 ?_
  refine lv_iload_n hx hb dX11_leavesBefore_7 rfl (lv_at hl 1 rfl) ?_
  refine va_iald hx hb hK hP 4 0 rfl rfl (iv_in bp1 (by decide) (by decide)) dX11_leavesBefore_8 ?_
  refine lv_topi (fun z101 ez101 => ?_)
  refine lv_aload_n hx hb dX11_leavesBefore_9 rfl (lv_at hl 0 rfl) ?_
  refine va_get (D := (dC, dI)) (ci := 11) (v := .ref a0_choice) (C := RX11) (T := TX11) (N := 13) hx hb hts hinX11 hown hK hP 0 rfl rfl 9 (by decide) (hts (.fieldLink RX11 75 "SlipstreamCache" "choice" "LSlipstreamCache$Choice;") (List.mem_of_getElem? (i := 1) rfl)) (fun _ h9 => h9) rfl dX11_leavesBefore_10 ?_
  refine va_get (D := (dC, dI)) (ci := 1) (v := .ref a0_choice_worths) (C := RX1) (T := TX1) (N := 5) hx hb hts hinX1 hown hK hP 2 rfl rfl 1 (by decide) (hts (.fieldLink RX11 393 "SlipstreamCache$Choice" "worths" "[I") (List.mem_of_getElem? (i := 2) rfl)) (fun _ h9 => h9) rfl dX11_leavesBefore_13 ?_
  refine lv_iload_n hx hb dX11_leavesBefore_16 rfl (lv_at hl 2 rfl) ?_
  refine va_iald hx hb hK hP 4 0 rfl rfl (iv_in bp2 (by decide) (by decide)) dX11_leavesBefore_17 ?_
  refine lv_topi (fun z102 ez102 => ?_)
  refine lv_isub hx hb dX11_leavesBefore_18 ?_
  refine lv_topi (fun z103 ez103 => ?_)
  refine lv_istore_n (lv' := [(3, .int z103), (0, .ref a0), (1, .int p1), (2, .int p2)]) hx hb dX11_leavesBefore_19 rfl hl (by decide) rfl (fun ls hl => ?_)
  refine lv_iload_n hx hb dX11_leavesBefore_20 rfl (lv_at hl 0 rfl) ?_
  refine lv_if_lt (tgt := 49) hx hb dX11_leavesBefore_21 (by decide) (fun c104 => ?_) (fun c104 => ?_)
  · have c104 := c_lt c104
    have bz103_c104 : (-2147483648) ≤ z103.toInt ∧ z103.toInt ≤ (-1) := u_lt (iv_f z103) (iv_k 0 (k := 0) (by decide)) c104 (by decide) (by decide)
    refine lv_iconst (v := 1) hx hb dX11_leavesBefore_49 (by decide) ?_
    refine lv_goto (tgt := 54) hx hb dX11_leavesBefore_50 (by decide) ?_
    subst hQ
    exact W.zret (v := (1 : Int32)) hx hb hr (nar_b (iv_k 1 (k := 1) (by decide)) (by decide) (by decide)) (fun t ht hW => ⟨⟨(1 : Int32), (), rfl, ⟨iv_m (iv_k 1 (k := 1) (by decide)) (by decide) (by decide), trivial⟩, pAt ht hP⟩, hS.F ht⟩) hS.2.2 dX11_leavesBefore_54
  · have c104 := c_nlt c104
    have bz103_c104 : 0 ≤ z103.toInt ∧ z103.toInt ≤ 2147483647 := l_le (iv_f z103) (iv_k 0 (k := 0) (by decide)) c104 (by decide) (by decide)
    refine lv_iload_n hx hb dX11_leavesBefore_24 rfl (lv_at hl 0 rfl) ?_
    refine lv_if_ne (tgt := 53) hx hb dX11_leavesBefore_25 (by decide) (fun c105 => ?_) (fun c105 => ?_)
    · have c105 := c_ne c105
      have bz103_c105 : 1 ≤ z103.toInt ∧ z103.toInt ≤ 2147483647 := n_ne bz103_c104 (iv_k 0 (k := 0) (by decide)) c105 (by decide) (by decide)
      refine lv_iconst (v := 0) hx hb dX11_leavesBefore_53 (by decide) ?_
      subst hQ
      exact W.zret (v := (0 : Int32)) hx hb hr (nar_b (iv_k 0 (k := 0) (by decide)) (by decide) (by decide)) (fun t ht hW => ⟨⟨(0 : Int32), (), rfl, ⟨iv_m (iv_k 0 (k := 0) (by decide)) (by decide) (by decide), trivial⟩, pAt ht hP⟩, hS.F ht⟩) hS.2.2 dX11_leavesBefore_54
    · have c105 := c_eq c105
      have bz103_c105 : 0 ≤ z103.toInt ∧ z103.toInt ≤ 0 := e_eq bz103_c104 (iv_k 0 (k := 0) (by decide)) c105 (by decide) (by decide)
      refine lv_aload_n hx hb dX11_leavesBefore_28 rfl (lv_at hl 1 rfl) ?_
      refine va_get (D := (dC, dI)) (ci := 11) (v := .ref a0_memory) (C := RX11) (T := TX11) (N := 13) hx hb hts hinX11 hown hK hP 0 rfl rfl 4 (by decide) (hts (.fieldLink RX11 40 "SlipstreamCache" "memory" "LSlipstreamCache$Memory;") (List.mem_of_getElem? (i := 3) rfl)) (fun _ h9 => h9) rfl dX11_leavesBefore_29 ?_
      refine va_get (D := (dC, dI)) (ci := 6) (v := .ref a0_memory_usedAt) (C := RX6) (T := TX6) (N := 5) hx hb hts hinX6 hown hK hP 1 rfl rfl 2 (by decide) (hts (.fieldLink RX11 411 "SlipstreamCache$Memory" "usedAt" "[I") (List.mem_of_getElem? (i := 4) rfl)) (fun _ h9 => h9) rfl dX11_leavesBefore_32 ?_
      refine lv_iload_n hx hb dX11_leavesBefore_35 rfl (lv_at hl 2 rfl) ?_
      refine va_iald hx hb hK hP 3 0 rfl rfl (iv_in bp1 (by decide) (by decide)) dX11_leavesBefore_36 ?_
      refine lv_topi (fun z106 ez106 => ?_)
      refine lv_aload_n hx hb dX11_leavesBefore_37 rfl (lv_at hl 1 rfl) ?_
      refine va_get (D := (dC, dI)) (ci := 11) (v := .ref a0_memory) (C := RX11) (T := TX11) (N := 13) hx hb hts hinX11 hown hK hP 0 rfl rfl 4 (by decide) (hts (.fieldLink RX11 40 "SlipstreamCache" "memory" "LSlipstreamCache$Memory;") (List.mem_of_getElem? (i := 3) rfl)) (fun _ h9 => h9) rfl dX11_leavesBefore_38 ?_
      refine va_get (D := (dC, dI)) (ci := 6) (v := .ref a0_memory_usedAt) (C := RX6) (T := TX6) (N := 5) hx hb hts hinX6 hown hK hP 1 rfl rfl 2 (by decide) (hts (.fieldLink RX11 411 "SlipstreamCache$Memory" "usedAt" "[I") (List.mem_of_getElem? (i := 4) rfl)) (fun _ h9 => h9) rfl dX11_leavesBefore_41 ?_
      refine lv_iload_n hx hb dX11_leavesBefore_44 rfl (lv_at hl 3 rfl) ?_
      refine va_iald hx hb hK hP 3 0 rfl rfl (iv_in bp2 (by decide) (by decide)) dX11_leavesBefore_45 ?_
      refine lv_topi (fun z107 ez107 => ?_)
      refine lv_icmp_ge (tgt := 53) hx hb dX11_leavesBefore_46 (by decide) (fun c108 => ?_) (fun c108 => ?_)
      · have c108 := c_le c108
        refine lv_iconst (v := 0) hx hb dX11_leavesBefore_53 (by decide) ?_
        subst hQ
        exact W.zret (v := (0 : Int32)) hx hb hr (nar_b (iv_k 0 (k := 0) (by decide)) (by decide) (by decide)) (fun t ht hW => ⟨⟨(0 : Int32), (), rfl, ⟨iv_m (iv_k 0 (k := 0) (by decide)) (by decide) (by decide), trivial⟩, pAt ht hP⟩, hS.F ht⟩) hS.2.2 dX11_leavesBefore_54
      · have c108 := c_nle c108
        have bz106_c108 : (-2147483648) ≤ z106.toInt ∧ z106.toInt ≤ 2147483646 := u_lt (iv_f z106) (iv_f z107) c108 (by decide) (by decide)
        have bz107_c108 : (-2147483647) ≤ z107.toInt ∧ z107.toInt ≤ 2147483647 := l_lt (iv_f z107) bz106_c108 c108 (by decide) (by decide)
        refine lv_iconst (v := 1) hx hb dX11_leavesBefore_49 (by decide) ?_
        refine lv_goto (tgt := 54) hx hb dX11_leavesBefore_50 (by decide) ?_
        subst hQ
        exact W.zret (v := (1 : Int32)) hx hb hr (nar_b (iv_k 1 (k := 1) (by decide)) (by decide) (by decide)) (fun t ht hW => ⟨⟨(1 : Int32), (), rfl, ⟨iv_m (iv_k 1 (k := 1) (by decide)) (by decide) (by decide), trivial⟩, pAt ht hP⟩, hS.F ht⟩) hS.2.2 dX11_leavesBefore_54
set_option maxHeartbeats 4000000 in
set_option maxRecDepth 100000 in
theorem kX11_nextLeaver_2 (l : Launch) (dC : Nat → ClassId) (dI : Nat → Nat → Nat) (cI cZ cC cJ cD : ClassId) (qf : Nat) (a0 a0_keys a0_store a0_mirror a0_sketch a0_memory a0_flash a0_pledges a0_leases a0_answers a0_choice a0_incoming a0_memory_copies a0_memory_present a0_memory_usedAt a0_pledges_waiting a0_pledges_values a0_pledges_due a0_choice_chosen a0_choice_worths a0_choice_order : Nat) (sz : Nat) (f_a0_memory_present : Nat → Int32) (f_a0_memory_usedAt : Nat → Int32) (f_a0_pledges_waiting : Nat → Int32) (f_a0_choice_chosen : Nat → Int32) (f_a0_choice_worths : Nat → Int32) (v_a0_now v_a0_down v_a0_memory_uses v_a0_memory_filled v_a0_pledges_count v_a0_choice_count v_a0_choice_sum : Int32) (rf_a0_memory_present : rg 0 1 32 f_a0_memory_present) (rf_a0_pledges_waiting : rg 0 1 32 f_a0_pledges_waiting) (rf_a0_choice_chosen : rg 0 1 32 f_a0_choice_chosen) (bv_a0_now : 0 ≤ v_a0_now.toInt ∧ v_a0_now.toInt ≤ 5000) (bv_a0_down : 0 ≤ v_a0_down.toInt ∧ v_a0_down.toInt ≤ 1) (bv_a0_memory_filled : 0 ≤ v_a0_memory_filled.toInt ∧ v_a0_memory_filled.toInt ≤ 12) (bv_a0_pledges_count : 0 ≤ v_a0_pledges_count.toInt ∧ v_a0_pledges_count.toInt ≤ 32) (bv_a0_choice_count : 0 ≤ v_a0_choice_count.toInt ∧ v_a0_choice_count.toInt ≤ 32) : Met l yX11_nextLeaver wsX11_nextLeaver ({ frames := 2, cells := 0, slots := 0, locals := 23 } : Room) (mPre qf [.ref a0] sz (dC, dI) (mT cI cZ cC cJ cD) [(a0, .inr (11, [.ref a0_keys, .ref a0_store, .ref a0_mirror, .ref a0_sketch, .ref a0_memory, .ref a0_flash, .ref a0_pledges, .ref a0_leases, .ref a0_answers, .ref a0_choice, .ref a0_incoming, .int v_a0_now, .int v_a0_down])), (a0_memory, .inr (6, [.ref a0_memory_copies, .ref a0_memory_present, .ref a0_memory_usedAt, .int v_a0_memory_uses, .int v_a0_memory_filled])), (a0_pledges, .inr (8, [.ref a0_pledges_waiting, .ref a0_pledges_values, .ref a0_pledges_due, .int v_a0_pledges_count])), (a0_choice, .inr (1, [.ref a0_choice_chosen, .ref a0_choice_worths, .ref a0_choice_order, .int v_a0_choice_count, .int v_a0_choice_sum])), (a0_memory_present, .inl (cZ, 32, .inl f_a0_memory_present)), (a0_memory_usedAt, .inl (cI, 32, .inl f_a0_memory_usedAt)), (a0_pledges_waiting, .inl (cZ, 32, .inl f_a0_pledges_waiting)), (a0_choice_chosen, .inl (cZ, 32, .inl f_a0_choice_chosen)), (a0_choice_worths, .inl (cI, 32, .inl f_a0_choice_worths))]) (mQi (fun (r : Int32) (u : Unit) => ((-1) ≤ r.toInt ∧ r.toInt ≤ 31) ∧ (((-1) ≤ r.toInt ∧ r.toInt ≤ (-1)) ∨ (1 ≤ (f_a0_memory_present (r).toNatClampNeg).toInt ∧ (f_a0_memory_present (r).toNatClampNeg).toInt ≤ 1)) ∧ (((-1) ≤ r.toInt ∧ r.toInt ≤ (-1)) ∨ (0 ≤ (f_a0_pledges_waiting (r).toNatClampNeg).toInt ∧ (f_a0_pledges_waiting (r).toNatClampNeg).toInt ≤ 0)) ∧ (((-1) ≤ r.toInt ∧ r.toInt ≤ (-1)) ∨ (0 ≤ (f_a0_choice_chosen (r).toNatClampNeg).toInt ∧ (f_a0_choice_chosen (r).toNatClampNeg).toInt ≤ 0)) ∧ True) (fun (u : Unit) => [(a0, .inr (11, [.ref a0_keys, .ref a0_store, .ref a0_mirror, .ref a0_sketch, .ref a0_memory, .ref a0_flash, .ref a0_pledges, .ref a0_leases, .ref a0_answers, .ref a0_choice, .ref a0_incoming, .int v_a0_now, .int v_a0_down])), (a0_memory, .inr (6, [.ref a0_memory_copies, .ref a0_memory_present, .ref a0_memory_usedAt, .int v_a0_memory_uses, .int v_a0_memory_filled])), (a0_pledges, .inr (8, [.ref a0_pledges_waiting, .ref a0_pledges_values, .ref a0_pledges_due, .int v_a0_pledges_count])), (a0_choice, .inr (1, [.ref a0_choice_chosen, .ref a0_choice_worths, .ref a0_choice_order, .int v_a0_choice_count, .int v_a0_choice_sum])), (a0_memory_present, .inl (cZ, 32, .inl f_a0_memory_present)), (a0_memory_usedAt, .inl (cI, 32, .inl f_a0_memory_usedAt)), (a0_pledges_waiting, .inl (cZ, 32, .inl f_a0_pledges_waiting)), (a0_choice_chosen, .inl (cZ, 32, .inl f_a0_choice_chosen)), (a0_choice_worths, .inl (cI, 32, .inl f_a0_choice_worths))]) (dC, dI) (va_A [(a0, .inr (11, [.ref a0_keys, .ref a0_store, .ref a0_mirror, .ref a0_sketch, .ref a0_memory, .ref a0_flash, .ref a0_pledges, .ref a0_leases, .ref a0_answers, .ref a0_choice, .ref a0_incoming, .int v_a0_now, .int v_a0_down])), (a0_memory, .inr (6, [.ref a0_memory_copies, .ref a0_memory_present, .ref a0_memory_usedAt, .int v_a0_memory_uses, .int v_a0_memory_filled])), (a0_pledges, .inr (8, [.ref a0_pledges_waiting, .ref a0_pledges_values, .ref a0_pledges_due, .int v_a0_pledges_count])), (a0_choice, .inr (1, [.ref a0_choice_chosen, .ref a0_choice_worths, .ref a0_choice_order, .int v_a0_choice_count, .int v_a0_choice_sum])), (a0_memory_present, .inl (cZ, 32, .inl f_a0_memory_present)), (a0_memory_usedAt, .inl (cI, 32, .inl f_a0_memory_usedAt)), (a0_pledges_waiting, .inl (cZ, 32, .inl f_a0_pledges_waiting)), (a0_choice_chosen, .inl (cZ, 32, .inl f_a0_choice_chosen)), (a0_choice_worths, .inl (cI, 32, .inl f_a0_choice_worths))] sz)) 0 0 (va_A [(a0, .inr (11, [.ref a0_keys, .ref a0_store, .ref a0_mirror, .ref a0_sketch, .ref a0_memory, .ref a0_flash, .ref a0_pledges, .ref a0_leases, .ref a0_answers, .ref a0_choice, .ref a0_incoming, .int v_a0_now, .int v_a0_down])), (a0_memory, .inr (6, [.ref a0_memory_copies, .ref a0_memory_present, .ref a0_memory_usedAt, .int v_a0_memory_uses, .int v_a0_memory_filled])), (a0_pledges, .inr (8, [.ref a0_pledges_waiting, .ref a0_pledges_values, .ref a0_pledges_due, .int v_a0_pledges_count])), (a0_choice, .inr (1, [.ref a0_choice_chosen, .ref a0_choice_worths, .ref a0_choice_order, .int v_a0_choice_count, .int v_a0_choice_sum])), (a0_memory_present, .inl (cZ, 32, .inl f_a0_memory_present)), (a0_memory_usedAt, .inl (cI, 32, .inl f_a0_memory_usedAt)), (a0_pledges_waiting, .inl (cZ, 32, .inl f_a0_pledges_waiting)), (a0_choice_chosen, .inl (cZ, 32, .inl f_a0_choice_chosen)), (a0_choice_worths, .inl (cI, 32, .inl f_a0_choice_worths))] sz) := by
  refine mMet (Qc := fun A => mQi (fun (r : Int32) (u : Unit) => ((-1) ≤ r.toInt ∧ r.toInt ≤ 31) ∧ (((-1) ≤ r.toInt ∧ r.toInt ≤ (-1)) ∨ (1 ≤ (f_a0_memory_present (r).toNatClampNeg).toInt ∧ (f_a0_memory_present (r).toNatClampNeg).toInt ≤ 1)) ∧ (((-1) ≤ r.toInt ∧ r.toInt ≤ (-1)) ∨ (0 ≤ (f_a0_pledges_waiting (r).toNatClampNeg).toInt ∧ (f_a0_pledges_waiting (r).toNatClampNeg).toInt ≤ 0)) ∧ (((-1) ≤ r.toInt ∧ r.toInt ≤ (-1)) ∨ (0 ≤ (f_a0_choice_chosen (r).toNatClampNeg).toInt ∧ (f_a0_choice_chosen (r).toNatClampNeg).toInt ≤ 0)) ∧ True) (fun (u : Unit) => [(a0, .inr (11, [.ref a0_keys, .ref a0_store, .ref a0_mirror, .ref a0_sketch, .ref a0_memory, .ref a0_flash, .ref a0_pledges, .ref a0_leases, .ref a0_answers, .ref a0_choice, .ref a0_incoming, .int v_a0_now, .int v_a0_down])), (a0_memory, .inr (6, [.ref a0_memory_copies, .ref a0_memory_present, .ref a0_memory_usedAt, .int v_a0_memory_uses, .int v_a0_memory_filled])), (a0_pledges, .inr (8, [.ref a0_pledges_waiting, .ref a0_pledges_values, .ref a0_pledges_due, .int v_a0_pledges_count])), (a0_choice, .inr (1, [.ref a0_choice_chosen, .ref a0_choice_worths, .ref a0_choice_order, .int v_a0_choice_count, .int v_a0_choice_sum])), (a0_memory_present, .inl (cZ, 32, .inl f_a0_memory_present)), (a0_memory_usedAt, .inl (cI, 32, .inl f_a0_memory_usedAt)), (a0_pledges_waiting, .inl (cZ, 32, .inl f_a0_pledges_waiting)), (a0_choice_chosen, .inl (cZ, 32, .inl f_a0_choice_chosen)), (a0_choice_worths, .inl (cI, 32, .inl f_a0_choice_worths))]) (dC, dI) A) (y := yX11_nextLeaver) (ws := wsX11_nextLeaver) (av := [.ref a0]) (wc := [(a0, .inr (11, [.ref a0_keys, .ref a0_store, .ref a0_mirror, .ref a0_sketch, .ref a0_memory, .ref a0_flash, .ref a0_pledges, .ref a0_leases, .ref a0_answers, .ref a0_choice, .ref a0_incoming, .int v_a0_now, .int v_a0_down])), (a0_memory, .inr (6, [.ref a0_memory_copies, .ref a0_memory_present, .ref a0_memory_usedAt, .int v_a0_memory_uses, .int v_a0_memory_filled])), (a0_pledges, .inr (8, [.ref a0_pledges_waiting, .ref a0_pledges_values, .ref a0_pledges_due, .int v_a0_pledges_count])), (a0_choice, .inr (1, [.ref a0_choice_chosen, .ref a0_choice_worths, .ref a0_choice_order, .int v_a0_choice_count, .int v_a0_choice_sum])), (a0_memory_present, .inl (cZ, 32, .inl f_a0_memory_present)), (a0_memory_usedAt, .inl (cI, 32, .inl f_a0_memory_usedAt)), (a0_pledges_waiting, .inl (cZ, 32, .inl f_a0_pledges_waiting)), (a0_choice_chosen, .inl (cZ, 32, .inl f_a0_choice_chosen)), (a0_choice_worths, .inl (cI, 32, .inl f_a0_choice_worths))]) (cc := cX11_nextLeaver) (maxL := 4) (ret := (some .int)) (own := RX11) (by decide) rfl rfl (Nat.le_of_ble_eq_true rfl) ?_
  intro p e s m args below meth c hx hb hr hts hown hml hlk A hsz hP hK hD hS hA hE ls hl Q hQ
  have hl : lv_has ls 4 [(0, .ref a0)] := hl
  have hinX11 : ∀ w ∈ u_ws RX11 TX11 13, w ∈ wsX11_nextLeaver := fun w h => List.mem_cons_of_mem _ (List.mem_append_left _ (List.mem_append_left _ (List.mem_append_left _ (List.mem_append_left _ (List.mem_append_right _ h)))))
  have hinX6 : ∀ w ∈ u_ws RX6 TX6 5, w ∈ wsX11_nextLeaver := fun w h => List.mem_cons_of_mem _ (List.mem_append_left _ (List.mem_append_left _ (List.mem_append_left _ (List.mem_append_right _ h))))
  have hinX8 : ∀ w ∈ u_ws RX8 TX8 4, w ∈ wsX11_nextLeaver := fun w h => List.mem_cons_of_mem _ (List.mem_append_left _ (List.mem_append_left _ (List.mem_append_right _ h)))
  have hinX1 : ∀ w ∈ u_ws RX1 TX1 5, w ∈ wsX11_nextLeaver := fun w h => List.mem_cons_of_mem _ (List.mem_append_left _ (List.mem_append_right _ h))
  refine lv_iconst (v := (-1)) hx hb dX11_nextLeaver_0 (by decide) ?_
  refine lv_istore_n (lv' := [(1, .int (-1)), (0, .ref a0)]) hx hb dX11_nextLeaver_1 rfl hl (by decide) rfl (fun ls hl => ?_)
  refine lv_iconst (v := 0) hx hb dX11_nextLeaver_2 (by decide) ?_
  refine lv_istore_n (lv' := [(2, .int 0), (1, .int (-1)), (0, .ref a0)]) hx hb dX11_nextLeaver_3 rfl hl (by decide) rfl (fun ls hl => ?_)
  have L4_100 : ∀ (n : Nat) (k4_2 : Int32) (k4_1 : Int32), (0 ≤ k4_2.toInt ∧ k4_2.toInt ≤ 64) → ((-1) ≤ k4_1.toInt ∧ k4_1.toInt ≤ 31) → (((-1) ≤ k4_1.toInt ∧ k4_1.toInt ≤ (-1)) ∨ (1 ≤ (f_a0_memory_present (k4_1).toNatClampNeg).toInt ∧ (f_a0_memory_present (k4_1).toNatClampNeg).toInt ≤ 1)) → (((-1) ≤ k4_1.toInt ∧ k4_1.toInt ≤ (-1)) ∨ (0 ≤ (f_a0_pledges_waiting (k4_1).toNatClampNeg).toInt ∧ (f_a0_pledges_waiting (k4_1).toNatClampNeg).toInt ≤ 0)) → (((-1) ≤ k4_1.toInt ∧ k4_1.toInt ≤ (-1)) ∨ (0 ≤ (f_a0_choice_chosen (k4_1).toNatClampNeg).toInt ∧ (f_a0_choice_chosen (k4_1).toNatClampNeg).toInt ≤ 0)) → (32 + 1 - k4_2.toInt).toNat < n → ∀ (H : Heap) (locs : List Loc), va_P (dC, dI) vqCl [(a0, .inr (11, [.ref a0_keys, .ref a0_store, .ref a0_mirror, .ref a0_sketch, .ref a0_memory, .ref a0_flash, .ref a0_pledges, .ref a0_leases, .ref a0_answers, .ref a0_choice, .ref a0_incoming, .int v_a0_now, .int v_a0_down])), (a0_memory, .inr (6, [.ref a0_memory_copies, .ref a0_memory_present, .ref a0_memory_usedAt, .int v_a0_memory_uses, .int v_a0_memory_filled])), (a0_pledges, .inr (8, [.ref a0_pledges_waiting, .ref a0_pledges_values, .ref a0_pledges_due, .int v_a0_pledges_count])), (a0_choice, .inr (1, [.ref a0_choice_chosen, .ref a0_choice_worths, .ref a0_choice_order, .int v_a0_choice_count, .int v_a0_choice_sum])), (a0_memory_present, .inl (cZ, 32, .inl f_a0_memory_present)), (a0_memory_usedAt, .inl (cI, 32, .inl f_a0_memory_usedAt)), (a0_pledges_waiting, .inl (cZ, 32, .inl f_a0_pledges_waiting)), (a0_choice_chosen, .inl (cZ, 32, .inl f_a0_choice_chosen)), (a0_choice_worths, .inl (cI, 32, .inl f_a0_choice_worths))] H → va_S A s.heap H locs → ∀ ls : Array Slot, lv_has ls 4 [(2, .int k4_2), (1, .int k4_1), (0, .ref a0)] → W p l e ({ frames := 2, cells := 0, slots := 0, locals := 23 } : Room) s m args below meth c H locs 0 0 Q (F0 m 4 ls []) := by
    intro n
    induction n with
    | zero =>
      intro k4_2 k4_1 bk4_2 bk4_1 cl4_0 cl4_1 cl4_2 hm
      exact absurd hm (Nat.not_lt_zero _)
    | succ n ih4 =>
      intro k4_2 k4_1 bk4_2 bk4_1 cl4_0 cl4_1 cl4_2 hm H locs hP hS ls hl
      refine lv_iload_n hx hb dX11_nextLeaver_4 rfl (lv_at hl 0 rfl) ?_
      refine lv_bipush (v := 32) hx hb dX11_nextLeaver_5 (by decide) ?_
      refine lv_icmp_ge (tgt := 78) hx hb dX11_nextLeaver_7 (by decide) (fun c102 => ?_) (fun c102 => ?_)
      · have c102 := c_le c102
        have bk4_2_c102 : 32 ≤ k4_2.toInt ∧ k4_2.toInt ≤ 64 := l_le bk4_2 (iv_k 32 (k := 32) (by decide)) c102 (by decide) (by decide)
        refine lv_iload_n hx hb dX11_nextLeaver_78 rfl (lv_at hl 1 rfl) ?_
        subst hQ
        exact W.iret (v := k4_1) hx hb hr (fun t ht hW => ⟨⟨k4_1, (), rfl, ⟨iv_m bk4_1 (by decide) (by decide), cl4_0, cl4_1, cl4_2, trivial⟩, pAt ht hP⟩, hS.F ht⟩) hS.2.2 dX11_nextLeaver_79
      · have c102 := c_nle c102
        have bk4_2_c102 : 0 ≤ k4_2.toInt ∧ k4_2.toInt ≤ 31 := u_lt bk4_2 (iv_k 32 (k := 32) (by decide)) c102 (by decide) (by decide)
        refine lv_aload_n hx hb dX11_nextLeaver_10 rfl (lv_at hl 2 rfl) ?_
        refine va_get (D := (dC, dI)) (ci := 11) (v := .ref a0_memory) (C := RX11) (T := TX11) (N := 13) hx hb hts hinX11 hown hK hP 0 rfl rfl 4 (by decide) (hts (.fieldLink RX11 40 "SlipstreamCache" "memory" "LSlipstreamCache$Memory;") (List.mem_of_getElem? (i := 1) rfl)) (fun _ h9 => h9) rfl dX11_nextLeaver_11 ?_
        refine va_get (D := (dC, dI)) (ci := 6) (v := .ref a0_memory_present) (C := RX6) (T := TX6) (N := 5) hx hb hts hinX6 hown hK hP 1 rfl rfl 1 (by decide) (hts (.fieldLink RX11 292 "SlipstreamCache$Memory" "present" "[Z") (List.mem_of_getElem? (i := 2) rfl)) (fun _ h9 => h9) rfl dX11_nextLeaver_14 ?_
        refine lv_iload_n hx hb dX11_nextLeaver_17 rfl (lv_at hl 0 rfl) ?_
        refine va_zald hx hb hK hP 4 1 rfl rfl (iv_in bk4_2_c102 (by decide) (by decide)) dX11_nextLeaver_18 ?_
        refine lv_topi (fun z103 ez103 => ?_)
        have bz103 : 0 ≤ z103.toInt ∧ z103.toInt ≤ 1 := iv_at rf_a0_memory_present bk4_2_c102 (by decide) (by decide) ez103
        refine lv_if_eq (tgt := 50) hx hb dX11_nextLeaver_19 (by decide) (fun c104 => ?_) (fun c104 => ?_)
        · have c104 := c_eq c104
          have bz103_c104 : 0 ≤ z103.toInt ∧ z103.toInt ≤ 0 := e_eq bz103 (iv_k 0 (k := 0) (by decide)) c104 (by decide) (by decide)
          refine lv_iconst (v := 0) hx hb dX11_nextLeaver_50 (by decide) ?_
          refine lv_istore_n (lv' := [(3, .int 0), (2, .int k4_2), (1, .int k4_1), (0, .ref a0)]) hx hb dX11_nextLeaver_51 rfl hl (by decide) rfl (fun ls hl => ?_)
          refine lv_iload_n hx hb dX11_nextLeaver_52 rfl (lv_at hl 0 rfl) ?_
          refine lv_if_eq (tgt := 72) hx hb dX11_nextLeaver_53 (by decide) (fun c105 => ?_) (fun c => (z_ne (iv_k 0 (k := 0) (by decide)) (iv_k 0 (k := 0) (by decide)) (c_ne c) (by decide)).elim)
          have c105 := c_eq c105
          obtain ⟨z106, ez106⟩ : ∃ y : Int32, y = k4_2 + 1 := ⟨_, rfl⟩
          refine lv_iinc (v := z106) (lv' := [(2, .int z106), (3, .int 0), (1, .int k4_1), (0, .ref a0)]) hx hb dX11_nextLeaver_72 hl (k := 1) rfl (by rw [ez106]; rfl) (by decide) rfl (fun ls hl => ?_)
          have qz106 := iv_add (lo := 1) (hi := 32) ez106 bk4_2_c102 (iv_k 1 (k := 1) (by decide)) (by decide) (by decide) (by decide) (by decide)
          try rw [show (1 : Int32).toInt = 1 from rfl] at qz106
          refine lv_goto (tgt := 4) hx hb dX11_nextLeaver_75 (by decide) ?_
          exact ih4 z106 k4_1 (iv_m qz106.2 (by decide) (by decide)) (iv_m bk4_1 (by decide) (by decide)) cl4_0 cl4_1 cl4_2 (by omega) _ _ hP hS ls (lv_sub hl [0, 2, 3] rfl)
        · have c104 := c_ne c104
          have bz103_c104 : 1 ≤ z103.toInt ∧ z103.toInt ≤ 1 := n_ne bz103 (iv_k 0 (k := 0) (by decide)) c104 (by decide) (by decide)
          refine lv_aload_n hx hb dX11_nextLeaver_22 rfl (lv_at hl 2 rfl) ?_
          refine va_get (D := (dC, dI)) (ci := 11) (v := .ref a0_pledges) (C := RX11) (T := TX11) (N := 13) hx hb hts hinX11 hown hK hP 0 rfl rfl 6 (by decide) (hts (.fieldLink RX11 54 "SlipstreamCache" "pledges" "LSlipstreamCache$Pledges;") (List.mem_of_getElem? (i := 3) rfl)) (fun _ h9 => h9) rfl dX11_nextLeaver_23 ?_
          refine va_get (D := (dC, dI)) (ci := 8) (v := .ref a0_pledges_waiting) (C := RX8) (T := TX8) (N := 4) hx hb hts hinX8 hown hK hP 2 rfl rfl 0 (by decide) (hts (.fieldLink RX11 238 "SlipstreamCache$Pledges" "waiting" "[Z") (List.mem_of_getElem? (i := 4) rfl)) (fun _ h9 => h9) rfl dX11_nextLeaver_26 ?_
          refine lv_iload_n hx hb dX11_nextLeaver_29 rfl (lv_at hl 0 rfl) ?_
          refine va_zald hx hb hK hP 6 1 rfl rfl (iv_in bk4_2_c102 (by decide) (by decide)) dX11_nextLeaver_30 ?_
          refine lv_topi (fun z107 ez107 => ?_)
          have bz107 : 0 ≤ z107.toInt ∧ z107.toInt ≤ 1 := iv_at rf_a0_pledges_waiting bk4_2_c102 (by decide) (by decide) ez107
          refine lv_if_ne (tgt := 50) hx hb dX11_nextLeaver_31 (by decide) (fun c108 => ?_) (fun c108 => ?_)
          · have c108 := c_ne c108
            have bz107_c108 : 1 ≤ z107.toInt ∧ z107.toInt ≤ 1 := n_ne bz107 (iv_k 0 (k := 0) (by decide)) c108 (by decide) (by decide)
            refine lv_iconst (v := 0) hx hb dX11_nextLeaver_50 (by decide) ?_
            refine lv_istore_n (lv' := [(3, .int 0), (2, .int k4_2), (1, .int k4_1), (0, .ref a0)]) hx hb dX11_nextLeaver_51 rfl hl (by decide) rfl (fun ls hl => ?_)
            refine lv_iload_n hx hb dX11_nextLeaver_52 rfl (lv_at hl 0 rfl) ?_
            refine lv_if_eq (tgt := 72) hx hb dX11_nextLeaver_53 (by decide) (fun c109 => ?_) (fun c => (z_ne (iv_k 0 (k := 0) (by decide)) (iv_k 0 (k := 0) (by decide)) (c_ne c) (by decide)).elim)
            have c109 := c_eq c109
            obtain ⟨z110, ez110⟩ : ∃ y : Int32, y = k4_2 + 1 := ⟨_, rfl⟩
            refine lv_iinc (v := z110) (lv' := [(2, .int z110), (3, .int 0), (1, .int k4_1), (0, .ref a0)]) hx hb dX11_nextLeaver_72 hl (k := 1) rfl (by rw [ez110]; rfl) (by decide) rfl (fun ls hl => ?_)
            have qz110 := iv_add (lo := 1) (hi := 32) ez110 bk4_2_c102 (iv_k 1 (k := 1) (by decide)) (by decide) (by decide) (by decide) (by decide)
            try rw [show (1 : Int32).toInt = 1 from rfl] at qz110
            refine lv_goto (tgt := 4) hx hb dX11_nextLeaver_75 (by decide) ?_
            exact ih4 z110 k4_1 (iv_m qz110.2 (by decide) (by decide)) (iv_m bk4_1 (by decide) (by decide)) cl4_0 cl4_1 cl4_2 (by omega) _ _ hP hS ls (lv_sub hl [0, 2, 3] rfl)
          · have c108 := c_eq c108
            have bz107_c108 : 0 ≤ z107.toInt ∧ z107.toInt ≤ 0 := e_eq bz107 (iv_k 0 (k := 0) (by decide)) c108 (by decide) (by decide)
            refine lv_aload_n hx hb dX11_nextLeaver_34 rfl (lv_at hl 2 rfl) ?_
            refine va_get (D := (dC, dI)) (ci := 11) (v := .ref a0_choice) (C := RX11) (T := TX11) (N := 13) hx hb hts hinX11 hown hK hP 0 rfl rfl 9 (by decide) (hts (.fieldLink RX11 75 "SlipstreamCache" "choice" "LSlipstreamCache$Choice;") (List.mem_of_getElem? (i := 5) rfl)) (fun _ h9 => h9) rfl dX11_nextLeaver_35 ?_
            refine va_get (D := (dC, dI)) (ci := 1) (v := .ref a0_choice_chosen) (C := RX1) (T := TX1) (N := 5) hx hb hts hinX1 hown hK hP 3 rfl rfl 0 (by decide) (hts (.fieldLink RX11 405 "SlipstreamCache$Choice" "chosen" "[Z") (List.mem_of_getElem? (i := 6) rfl)) (fun _ h9 => h9) rfl dX11_nextLeaver_38 ?_
            refine lv_iload_n hx hb dX11_nextLeaver_41 rfl (lv_at hl 0 rfl) ?_
            refine va_zald hx hb hK hP 7 1 rfl rfl (iv_in bk4_2_c102 (by decide) (by decide)) dX11_nextLeaver_42 ?_
            refine lv_topi (fun z111 ez111 => ?_)
            have bz111 : 0 ≤ z111.toInt ∧ z111.toInt ≤ 1 := iv_at rf_a0_choice_chosen bk4_2_c102 (by decide) (by decide) ez111
            refine lv_if_ne (tgt := 50) hx hb dX11_nextLeaver_43 (by decide) (fun c112 => ?_) (fun c112 => ?_)
            · have c112 := c_ne c112
              have bz111_c112 : 1 ≤ z111.toInt ∧ z111.toInt ≤ 1 := n_ne bz111 (iv_k 0 (k := 0) (by decide)) c112 (by decide) (by decide)
              refine lv_iconst (v := 0) hx hb dX11_nextLeaver_50 (by decide) ?_
              refine lv_istore_n (lv' := [(3, .int 0), (2, .int k4_2), (1, .int k4_1), (0, .ref a0)]) hx hb dX11_nextLeaver_51 rfl hl (by decide) rfl (fun ls hl => ?_)
              refine lv_iload_n hx hb dX11_nextLeaver_52 rfl (lv_at hl 0 rfl) ?_
              refine lv_if_eq (tgt := 72) hx hb dX11_nextLeaver_53 (by decide) (fun c113 => ?_) (fun c => (z_ne (iv_k 0 (k := 0) (by decide)) (iv_k 0 (k := 0) (by decide)) (c_ne c) (by decide)).elim)
              have c113 := c_eq c113
              obtain ⟨z114, ez114⟩ : ∃ y : Int32, y = k4_2 + 1 := ⟨_, rfl⟩
              refine lv_iinc (v := z114) (lv' := [(2, .int z114), (3, .int 0), (1, .int k4_1), (0, .ref a0)]) hx hb dX11_nextLeaver_72 hl (k := 1) rfl (by rw [ez114]; rfl) (by decide) rfl (fun ls hl => ?_)
              have qz114 := iv_add (lo := 1) (hi := 32) ez114 bk4_2_c102 (iv_k 1 (k := 1) (by decide)) (by decide) (by decide) (by decide) (by decide)
              try rw [show (1 : Int32).toInt = 1 from rfl] at qz114
              refine lv_goto (tgt := 4) hx hb dX11_nextLeaver_75 (by decide) ?_
              exact ih4 z114 k4_1 (iv_m qz114.2 (by decide) (by decide)) (iv_m bk4_1 (by decide) (by decide)) cl4_0 cl4_1 cl4_2 (by omega) _ _ hP hS ls (lv_sub hl [0, 2, 3] rfl)
            · have c112 := c_eq c112
              have bz111_c112 : 0 ≤ z111.toInt ∧ z111.toInt ≤ 0 := e_eq bz111 (iv_k 0 (k := 0) (by decide)) c112 (by decide) (by decide)
              refine lv_iconst (v := 1) hx hb dX11_nextLeaver_46 (by decide) ?_
              refine lv_goto (tgt := 51) hx hb dX11_nextLeaver_47 (by decide) ?_
              refine lv_istore_n (lv' := [(3, .int 1), (2, .int k4_2), (1, .int k4_1), (0, .ref a0)]) hx hb dX11_nextLeaver_51 rfl hl (by decide) rfl (fun ls hl => ?_)
              refine lv_iload_n hx hb dX11_nextLeaver_52 rfl (lv_at hl 0 rfl) ?_
              refine lv_if_eq (tgt := 72) hx hb dX11_nextLeaver_53 (by decide) (fun c => (z_eq (iv_k 1 (k := 1) (by decide)) (iv_k 0 (k := 0) (by decide)) (c_eq c) (by decide)).elim) (fun c115 => ?_)
              have c115 := c_ne c115
              refine lv_iload_n hx hb dX11_nextLeaver_56 rfl (lv_at hl 2 rfl) ?_
              refine lv_iconst (v := (-1)) hx hb dX11_nextLeaver_57 (by decide) ?_
              refine lv_icmp_eq (tgt := 70) hx hb dX11_nextLeaver_58 (by decide) (fun c116 => ?_) (fun c116 => ?_)
              · have c116 := c_eq c116
                have bk4_1_c116 : (-1) ≤ k4_1.toInt ∧ k4_1.toInt ≤ (-1) := e_eq bk4_1 (iv_k (-1) (k := (-1)) (by decide)) c116 (by decide) (by decide)
                refine lv_iload_n hx hb dX11_nextLeaver_70 rfl (lv_at hl 1 rfl) ?_
                refine lv_istore_n (lv' := [(1, .int k4_2), (3, .int 1), (2, .int k4_2), (0, .ref a0)]) hx hb dX11_nextLeaver_71 rfl hl (by decide) rfl (fun ls hl => ?_)
                obtain ⟨z117, ez117⟩ : ∃ y : Int32, y = k4_2 + 1 := ⟨_, rfl⟩
                refine lv_iinc (v := z117) (lv' := [(2, .int z117), (1, .int k4_2), (3, .int 1), (0, .ref a0)]) hx hb dX11_nextLeaver_72 hl (k := 2) rfl (by rw [ez117]; rfl) (by decide) rfl (fun ls hl => ?_)
                have qz117 := iv_add (lo := 1) (hi := 32) ez117 bk4_2_c102 (iv_k 1 (k := 1) (by decide)) (by decide) (by decide) (by decide) (by decide)
                try rw [show (1 : Int32).toInt = 1 from rfl] at qz117
                refine lv_goto (tgt := 4) hx hb dX11_nextLeaver_75 (by decide) ?_
                exact ih4 z117 k4_2 (iv_m qz117.2 (by decide) (by decide)) (iv_m bk4_2_c102 (by decide) (by decide)) (Or.inr (cl_at ez103 (iv_m bz103_c104 (by decide) (by decide)))) (Or.inr (cl_at ez107 (iv_m bz107_c108 (by decide) (by decide)))) (Or.inr (cl_at ez111 (iv_m bz111_c112 (by decide) (by decide)))) (by omega) _ _ hP hS ls (lv_sub hl [0, 1, 3] rfl)
              · have c116 := c_ne c116
                have bk4_1_c116 : 0 ≤ k4_1.toInt ∧ k4_1.toInt ≤ 31 := n_ne bk4_1 (iv_k (-1) (k := (-1)) (by decide)) c116 (by decide) (by decide)
                have t118 : (1 ≤ (f_a0_memory_present (k4_1).toNatClampNeg).toInt ∧ (f_a0_memory_present (k4_1).toNatClampNeg).toInt ≤ 1) := (Or.resolve_left cl4_0 (cl_no bk4_1_c116 (by decide)))
                have t119 : (0 ≤ (f_a0_pledges_waiting (k4_1).toNatClampNeg).toInt ∧ (f_a0_pledges_waiting (k4_1).toNatClampNeg).toInt ≤ 0) := (Or.resolve_left cl4_1 (cl_no bk4_1_c116 (by decide)))
                have t120 : (0 ≤ (f_a0_choice_chosen (k4_1).toNatClampNeg).toInt ∧ (f_a0_choice_chosen (k4_1).toNatClampNeg).toInt ≤ 0) := (Or.resolve_left cl4_2 (cl_no bk4_1_c116 (by decide)))
                refine lv_aload_n hx hb dX11_nextLeaver_61 rfl (lv_at hl 3 rfl) ?_
                refine lv_iload_n hx hb dX11_nextLeaver_62 rfl (lv_at hl 1 rfl) ?_
                refine lv_iload_n hx hb dX11_nextLeaver_63 rfl (lv_at hl 2 rfl) ?_
                have hM := kX11_leavesBefore_18 l dC dI cI cZ cC cJ cD qf a0 a0_keys a0_store a0_mirror a0_sketch a0_memory a0_flash a0_pledges a0_leases a0_answers a0_choice a0_incoming a0_memory_copies a0_memory_present a0_memory_usedAt a0_choice_chosen a0_choice_worths a0_choice_order H.size f_a0_memory_usedAt f_a0_choice_worths v_a0_now v_a0_down v_a0_memory_uses v_a0_memory_filled v_a0_choice_count v_a0_choice_sum k4_2 k4_1 (iv_m bv_a0_now (by decide) (by decide)) (iv_m bv_a0_down (by decide) (by decide)) (iv_m bv_a0_memory_filled (by decide) (by decide)) (iv_m bv_a0_choice_count (by decide) (by decide)) (iv_m bk4_2_c102 (by decide) (by decide)) (iv_m bk4_1_c116 (by decide) (by decide))
                refine mVi (As := [.int k4_2, .int k4_1]) (rest := []) (wc := [(a0, .inr (11, [.ref a0_keys, .ref a0_store, .ref a0_mirror, .ref a0_sketch, .ref a0_memory, .ref a0_flash, .ref a0_pledges, .ref a0_leases, .ref a0_answers, .ref a0_choice, .ref a0_incoming, .int v_a0_now, .int v_a0_down])), (a0_memory, .inr (6, [.ref a0_memory_copies, .ref a0_memory_present, .ref a0_memory_usedAt, .int v_a0_memory_uses, .int v_a0_memory_filled])), (a0_choice, .inr (1, [.ref a0_choice_chosen, .ref a0_choice_worths, .ref a0_choice_order, .int v_a0_choice_count, .int v_a0_choice_sum])), (a0_memory_usedAt, .inl (cI, 32, .inl f_a0_memory_usedAt)), (a0_choice_worths, .inl (cI, 32, .inl f_a0_choice_worths))]) ⟨hx, hb, hml, hown, hts⟩ hM (cwV 2 hts gX11_nextLeaver_X11_leavesBefore rfl rfl rfl (by decide +kernel) ⟨(Nat.le_of_ble_eq_true rfl), (Nat.le_of_ble_eq_true rfl)⟩) hE hK hP hD rfl hS hA [0, 1, 3, 5, 8] rfl (by decide +kernel) (qr := 0) (cr := 11) rfl rfl rfl rfl hl rfl (Nat.le_of_ble_eq_true rfl) dX11_nextLeaver_64 ⟨(Nat.le_of_ble_eq_true rfl), (Nat.le_of_ble_eq_true rfl)⟩ (fun _ => rfl) (fun z121 uu122 H locs hw hP hS => ?_)
                have bz121 : 0 ≤ z121.toInt ∧ z121.toInt ≤ 1 := hw.1
                have hP : va_P (dC, dI) vqCl [(a0, .inr (11, [.ref a0_keys, .ref a0_store, .ref a0_mirror, .ref a0_sketch, .ref a0_memory, .ref a0_flash, .ref a0_pledges, .ref a0_leases, .ref a0_answers, .ref a0_choice, .ref a0_incoming, .int v_a0_now, .int v_a0_down])), (a0_memory, .inr (6, [.ref a0_memory_copies, .ref a0_memory_present, .ref a0_memory_usedAt, .int v_a0_memory_uses, .int v_a0_memory_filled])), (a0_pledges, .inr (8, [.ref a0_pledges_waiting, .ref a0_pledges_values, .ref a0_pledges_due, .int v_a0_pledges_count])), (a0_choice, .inr (1, [.ref a0_choice_chosen, .ref a0_choice_worths, .ref a0_choice_order, .int v_a0_choice_count, .int v_a0_choice_sum])), (a0_memory_present, .inl (cZ, 32, .inl f_a0_memory_present)), (a0_memory_usedAt, .inl (cI, 32, .inl f_a0_memory_usedAt)), (a0_pledges_waiting, .inl (cZ, 32, .inl f_a0_pledges_waiting)), (a0_choice_chosen, .inl (cZ, 32, .inl f_a0_choice_chosen)), (a0_choice_worths, .inl (cI, 32, .inl f_a0_choice_worths))] H := hP
                refine lv_if_eq (tgt := 72) hx hb dX11_nextLeaver_67 (by decide) (fun c123 => ?_) (fun c123 => ?_)
                · have c123 := c_eq c123
                  have bz121_c123 : 0 ≤ z121.toInt ∧ z121.toInt ≤ 0 := e_eq bz121 (iv_k 0 (k := 0) (by decide)) c123 (by decide) (by decide)
                  obtain ⟨z124, ez124⟩ : ∃ y : Int32, y = k4_2 + 1 := ⟨_, rfl⟩
                  refine lv_iinc (v := z124) (lv' := [(2, .int z124), (3, .int 1), (1, .int k4_1), (0, .ref a0)]) hx hb dX11_nextLeaver_72 hl (k := 1) rfl (by rw [ez124]; rfl) (by decide) rfl (fun ls hl => ?_)
                  have qz124 := iv_add (lo := 1) (hi := 32) ez124 bk4_2_c102 (iv_k 1 (k := 1) (by decide)) (by decide) (by decide) (by decide) (by decide)
                  try rw [show (1 : Int32).toInt = 1 from rfl] at qz124
                  refine lv_goto (tgt := 4) hx hb dX11_nextLeaver_75 (by decide) ?_
                  exact ih4 z124 k4_1 (iv_m qz124.2 (by decide) (by decide)) (iv_m bk4_1_c116 (by decide) (by decide)) (Or.inr (iv_m t118 (by decide) (by decide))) (Or.inr (iv_m t119 (by decide) (by decide))) (Or.inr (iv_m t120 (by decide) (by decide))) (by omega) _ _ hP hS ls (lv_sub hl [0, 2, 3] rfl)
                · have c123 := c_ne c123
                  have bz121_c123 : 1 ≤ z121.toInt ∧ z121.toInt ≤ 1 := n_ne bz121 (iv_k 0 (k := 0) (by decide)) c123 (by decide) (by decide)
                  refine lv_iload_n hx hb dX11_nextLeaver_70 rfl (lv_at hl 1 rfl) ?_
                  refine lv_istore_n (lv' := [(1, .int k4_2), (3, .int 1), (2, .int k4_2), (0, .ref a0)]) hx hb dX11_nextLeaver_71 rfl hl (by decide) rfl (fun ls hl => ?_)
                  obtain ⟨z125, ez125⟩ : ∃ y : Int32, y = k4_2 + 1 := ⟨_, rfl⟩
                  refine lv_iinc (v := z125) (lv' := [(2, .int z125), (1, .int k4_2), (3, .int 1), (0, .ref a0)]) hx hb dX11_nextLeaver_72 hl (k := 2) rfl (by rw [ez125]; rfl) (by decide) rfl (fun ls hl => ?_)
                  have qz125 := iv_add (lo := 1) (hi := 32) ez125 bk4_2_c102 (iv_k 1 (k := 1) (by decide)) (by decide) (by decide) (by decide) (by decide)
                  try rw [show (1 : Int32).toInt = 1 from rfl] at qz125
                  refine lv_goto (tgt := 4) hx hb dX11_nextLeaver_75 (by decide) ?_
                  exact ih4 z125 k4_2 (iv_m qz125.2 (by decide) (by decide)) (iv_m bk4_2_c102 (by decide) (by decide)) (Or.inr (cl_at ez103 (iv_m bz103_c104 (by decide) (by decide)))) (Or.inr (cl_at ez107 (iv_m bz107_c108 (by decide) (by decide)))) (Or.inr (cl_at ez111 (iv_m bz111_c112 (by decide) (by decide)))) (by omega) _ _ hP hS ls (lv_sub hl [0, 1, 3] rfl)
  exact L4_100 _ (0 : Int32) ((-1) : Int32) (iv_m (iv_k 0 (k := 0) (by decide)) (by decide) (by decide)) (iv_m (iv_k (-1) (k := (-1)) (by decide)) (by decide) (by decide)) (Or.inl (iv_m (iv_k (-1) (k := (-1)) (by decide)) (by decide) (by decide))) (Or.inl (iv_m (iv_k (-1) (k := (-1)) (by decide)) (by decide) (by decide))) (Or.inl (iv_m (iv_k (-1) (k := (-1)) (by decide)) (by decide) (by decide))) (Nat.lt_succ_self _) _ _ hP hS ls (lv_sub hl [0, 1, 2] rfl)
set_option maxHeartbeats 4000000 in
set_option maxRecDepth 100000 in
theorem kX1_add_2 (l : Launch) (dC : Nat → ClassId) (dI : Nat → Nat → Nat) (cI cZ cC cJ cD : ClassId) (qf : Nat) (a0 a0_chosen a0_worths a0_order : Nat) (sz : Nat) (f_a0_chosen : Nat → Int32) (f_a0_worths : Nat → Int32) (f_a0_order : Nat → Int32) (v_a0_count v_a0_sum p1 : Int32) (rf_a0_chosen : rg 0 1 32 f_a0_chosen) (rf_a0_order : rg 0 31 32 f_a0_order) (bv_a0_count : 0 ≤ v_a0_count.toInt ∧ v_a0_count.toInt ≤ 31) (bp1 : 0 ≤ p1.toInt ∧ p1.toInt ≤ 31) : Met l yX1_add wsX1_add ({ frames := 1, cells := 0, slots := 0, locals := 0 } : Room) (mPre qf [.ref a0, .int p1] sz (dC, dI) (mT cI cZ cC cJ cD) [(a0, .inr (1, [.ref a0_chosen, .ref a0_worths, .ref a0_order, .int v_a0_count, .int v_a0_sum])), (a0_chosen, .inl (cZ, 32, .inl f_a0_chosen)), (a0_worths, .inl (cI, 32, .inl f_a0_worths)), (a0_order, .inl (cI, 32, .inl f_a0_order))]) (mQv (fun (u : (Int32) × (Int32) × (Nat → Int32) × (Nat → Int32)) => (1 ≤ (u.1).toInt ∧ (u.1).toInt ≤ 32) ∧ (1 ≤ ((u.2.2.1) p1.toNatClampNeg).toInt ∧ ((u.2.2.1) p1.toNatClampNeg).toInt ≤ 1) ∧ rg 0 1 32 (u.2.2.1) ∧ rg 0 31 32 (u.2.2.2) ∧ ((u.1).toInt = v_a0_count.toInt + 1) ∧ ((u.2.2.2) = upd f_a0_order (v_a0_count).toNatClampNeg p1) ∧ ((u.2.2.1) = upd f_a0_chosen (p1).toNatClampNeg 1) ∧ True) (fun (u : (Int32) × (Int32) × (Nat → Int32) × (Nat → Int32)) => [(a0, .inr (1, [.ref a0_chosen, .ref a0_worths, .ref a0_order, .int (u.1), .int (u.2.1)])), (a0_chosen, .inl (cZ, 32, .inl (u.2.2.1))), (a0_worths, .inl (cI, 32, .inl f_a0_worths)), (a0_order, .inl (cI, 32, .inl (u.2.2.2)))]) (dC, dI) (va_A [(a0, .inr (1, [.ref a0_chosen, .ref a0_worths, .ref a0_order, .int v_a0_count, .int v_a0_sum])), (a0_chosen, .inl (cZ, 32, .inl f_a0_chosen)), (a0_worths, .inl (cI, 32, .inl f_a0_worths)), (a0_order, .inl (cI, 32, .inl f_a0_order))] sz)) 0 0 (va_A [(a0, .inr (1, [.ref a0_chosen, .ref a0_worths, .ref a0_order, .int v_a0_count, .int v_a0_sum])), (a0_chosen, .inl (cZ, 32, .inl f_a0_chosen)), (a0_worths, .inl (cI, 32, .inl f_a0_worths)), (a0_order, .inl (cI, 32, .inl f_a0_order))] sz) := by
  refine mMet (Qc := fun A => mQv (fun (u : (Int32) × (Int32) × (Nat → Int32) × (Nat → Int32)) => (1 ≤ (u.1).toInt ∧ (u.1).toInt ≤ 32) ∧ (1 ≤ ((u.2.2.1) p1.toNatClampNeg).toInt ∧ ((u.2.2.1) p1.toNatClampNeg).toInt ≤ 1) ∧ rg 0 1 32 (u.2.2.1) ∧ rg 0 31 32 (u.2.2.2) ∧ ((u.1).toInt = v_a0_count.toInt + 1) ∧ ((u.2.2.2) = upd f_a0_order (v_a0_count).toNatClampNeg p1) ∧ ((u.2.2.1) = upd f_a0_chosen (p1).toNatClampNeg 1) ∧ True) (fun (u : (Int32) × (Int32) × (Nat → Int32) × (Nat → Int32)) => [(a0, .inr (1, [.ref a0_chosen, .ref a0_worths, .ref a0_order, .int (u.1), .int (u.2.1)])), (a0_chosen, .inl (cZ, 32, .inl (u.2.2.1))), (a0_worths, .inl (cI, 32, .inl f_a0_worths)), (a0_order, .inl (cI, 32, .inl (u.2.2.2)))]) (dC, dI) A) (y := yX1_add) (ws := wsX1_add) (av := [.ref a0, .int p1]) (wc := [(a0, .inr (1, [.ref a0_chosen, .ref a0_worths, .ref a0_order, .int v_a0_count, .int v_a0_sum])), (a0_chosen, .inl (cZ, 32, .inl f_a0_chosen)), (a0_worths, .inl (cI, 32, .inl f_a0_worths)), (a0_order, .inl (cI, 32, .inl f_a0_order))]) (cc := cX1_add) (maxL := 2) (ret := none) (own := RX1) (by decide) rfl rfl (Nat.le_of_ble_eq_true rfl) ?_
  intro p e s m args below meth c hx hb hr hts hown hml hlk A hsz hP hK hD hS hA hE ls hl Q hQ
  have hl : lv_has ls 2 [(0, .ref a0), (1, .int p1)] := hl
  have hinX1 : ∀ w ∈ u_ws RX1 TX1 5, w ∈ wsX1_add := fun w h => List.mem_cons_of_mem _ (List.mem_append_left _ (List.mem_append_right _ h))
  refine lv_aload_n hx hb dX1_add_0 rfl (lv_at hl 0 rfl) ?_
  refine va_get (D := (dC, dI)) (ci := 1) (v := .int v_a0_count) (C := RX1) (T := TX1) (N := 5) hx hb hts hinX1 hown hK hP 0 rfl rfl 3 (by decide) (hts (.fieldLink RX1 22 "SlipstreamCache$Choice" "count" "I") (List.mem_of_getElem? (i := 1) rfl)) (fun _ h9 => h9) rfl dX1_add_1 ?_
  refine lv_bipush (v := 32) hx hb dX1_add_4 (by decide) ?_
  refine lv_icmp_ge (tgt := 51) hx hb dX1_add_6 (by decide) (fun c => (z_le (iv_k 32 (k := 32) (by decide)) bv_a0_count (c_le c) (by decide)).elim) (fun c101 => ?_)
  have c101 := c_nle c101
  refine lv_aload_n hx hb dX1_add_9 rfl (lv_at hl 0 rfl) ?_
  refine va_get (D := (dC, dI)) (ci := 1) (v := .ref a0_chosen) (C := RX1) (T := TX1) (N := 5) hx hb hts hinX1 hown hK hP 0 rfl rfl 0 (by decide) (hts (.fieldLink RX1 9 "SlipstreamCache$Choice" "chosen" "[Z") (List.mem_of_getElem? (i := 2) rfl)) (fun _ h9 => h9) rfl dX1_add_10 ?_
  refine lv_iload_n hx hb dX1_add_13 rfl (lv_at hl 1 rfl) ?_
  refine lv_iconst (v := 1) hx hb dX1_add_14 (by decide) ?_
  refine va_zast hx hb hK hP (hD.to rfl) hS 1 1 rfl rfl (iv_in bp1 (by decide) (by decide)) dX1_add_15 (fun H locs hP _ hS => ?_)
  rw [nar_bz (iv_k 1 (k := 1) (by decide)) (by decide) (by decide)] at hP
  obtain ⟨f102, ef102⟩ : ∃ y, y = upd f_a0_chosen (p1).toNatClampNeg (1 : Int32) := ⟨_, rfl⟩
  rw [← ef102] at hP
  have rf102 : rg 0 1 32 f102 := by rw [ef102]; exact (rg.mono rf_a0_chosen (by decide) (by decide)).up (iv_m (iv_k 1 (k := 1) (by decide)) (by decide) (by decide))
  have tf102 : 1 ≤ (f102 (p1).toNatClampNeg).toInt ∧ (f102 (p1).toNatClampNeg).toInt ≤ 1 := by rw [ef102, pk_us]; exact (iv_k 1 (k := 1) (by decide))
  have hP : va_P (dC, dI) vqCl [(a0, .inr (1, [.ref a0_chosen, .ref a0_worths, .ref a0_order, .int v_a0_count, .int v_a0_sum])), (a0_chosen, .inl (cZ, 32, .inl f102)), (a0_worths, .inl (cI, 32, .inl f_a0_worths)), (a0_order, .inl (cI, 32, .inl f_a0_order))] H := hP
  refine lv_aload_n hx hb dX1_add_16 rfl (lv_at hl 0 rfl) ?_
  refine va_get (D := (dC, dI)) (ci := 1) (v := .ref a0_order) (C := RX1) (T := TX1) (N := 5) hx hb hts hinX1 hown hK hP 0 rfl rfl 2 (by decide) (hts (.fieldLink RX1 19 "SlipstreamCache$Choice" "order" "[I") (List.mem_of_getElem? (i := 3) rfl)) (fun _ h9 => h9) rfl dX1_add_17 ?_
  refine lv_aload_n hx hb dX1_add_20 rfl (lv_at hl 0 rfl) ?_
  refine va_get (D := (dC, dI)) (ci := 1) (v := .int v_a0_count) (C := RX1) (T := TX1) (N := 5) hx hb hts hinX1 hown hK hP 0 rfl rfl 3 (by decide) (hts (.fieldLink RX1 22 "SlipstreamCache$Choice" "count" "I") (List.mem_of_getElem? (i := 1) rfl)) (fun _ h9 => h9) rfl dX1_add_21 ?_
  refine lv_iload_n hx hb dX1_add_24 rfl (lv_at hl 1 rfl) ?_
  refine va_iast hx hb hK hP (hD.to rfl) hS 3 0 rfl rfl (iv_in bv_a0_count (by decide) (by decide)) dX1_add_25 (fun H locs hP _ hS => ?_)
  obtain ⟨f103, ef103⟩ : ∃ y, y = upd f_a0_order (v_a0_count).toNatClampNeg p1 := ⟨_, rfl⟩
  rw [← ef103] at hP
  have rf103 : rg 0 31 32 f103 := by rw [ef103]; exact (rg.mono rf_a0_order (by decide) (by decide)).up (iv_m bp1 (by decide) (by decide))
  have hP : va_P (dC, dI) vqCl [(a0, .inr (1, [.ref a0_chosen, .ref a0_worths, .ref a0_order, .int v_a0_count, .int v_a0_sum])), (a0_chosen, .inl (cZ, 32, .inl f102)), (a0_worths, .inl (cI, 32, .inl f_a0_worths)), (a0_order, .inl (cI, 32, .inl f103))] H := hP
  refine lv_aload_n hx hb dX1_add_26 rfl (lv_at hl 0 rfl) ?_
  refine lv_dup hx hb dX1_add_27 rfl ?_
  refine va_get (D := (dC, dI)) (ci := 1) (v := .int v_a0_count) (C := RX1) (T := TX1) (N := 5) hx hb hts hinX1 hown hK hP 0 rfl rfl 3 (by decide) (hts (.fieldLink RX1 22 "SlipstreamCache$Choice" "count" "I") (List.mem_of_getElem? (i := 1) rfl)) (fun _ h9 => h9) rfl dX1_add_28 ?_
  refine lv_iconst (v := 1) hx hb dX1_add_31 (by decide) ?_
  refine lv_iadd hx hb dX1_add_32 ?_
  refine lv_topi (fun z104 ez104 => ?_)
  have qz104 := iv_add (lo := 1) (hi := 32) ez104 bv_a0_count (iv_k 1 (k := 1) (by decide)) (by decide) (by decide) (by decide) (by decide) 
  try rw [show (1 : Int32).toInt = 1 from rfl] at qz104
  refine va_put (D := (dC, dI)) (ci := 1) (v := .int z104) (ty := .int) (C := RX1) (T := TX1) (N := 5) hx hb hts hinX1 tyX1 tyX1_ok nmX1 hown hK hP (hD.to rfl) hS 0 rfl rfl 3 (by decide) (hts (.fieldLink RX1 22 "SlipstreamCache$Choice" "count" "I") (List.mem_of_getElem? (i := 1) rfl)) (fun _ h9 => h9) rfl (by decide +kernel) rfl rfl (Nat.le_of_ble_eq_true rfl) dX1_add_33 (fun H locs hP _ hS => ?_)
  have hP : va_P (dC, dI) vqCl [(a0, .inr (1, [.ref a0_chosen, .ref a0_worths, .ref a0_order, .int z104, .int v_a0_sum])), (a0_chosen, .inl (cZ, 32, .inl f102)), (a0_worths, .inl (cI, 32, .inl f_a0_worths)), (a0_order, .inl (cI, 32, .inl f103))] H := hP
  refine lv_aload_n hx hb dX1_add_36 rfl (lv_at hl 0 rfl) ?_
  refine lv_dup hx hb dX1_add_37 rfl ?_
  refine va_get (D := (dC, dI)) (ci := 1) (v := .int v_a0_sum) (C := RX1) (T := TX1) (N := 5) hx hb hts hinX1 hown hK hP 0 rfl rfl 4 (by decide) (hts (.fieldLink RX1 26 "SlipstreamCache$Choice" "sum" "I") (List.mem_of_getElem? (i := 4) rfl)) (fun _ h9 => h9) rfl dX1_add_38 ?_
  refine lv_aload_n hx hb dX1_add_41 rfl (lv_at hl 0 rfl) ?_
  refine va_get (D := (dC, dI)) (ci := 1) (v := .ref a0_worths) (C := RX1) (T := TX1) (N := 5) hx hb hts hinX1 hown hK hP 0 rfl rfl 1 (by decide) (hts (.fieldLink RX1 15 "SlipstreamCache$Choice" "worths" "[I") (List.mem_of_getElem? (i := 5) rfl)) (fun _ h9 => h9) rfl dX1_add_42 ?_
  refine lv_iload_n hx hb dX1_add_45 rfl (lv_at hl 1 rfl) ?_
  refine va_iald hx hb hK hP 2 0 rfl rfl (iv_in bp1 (by decide) (by decide)) dX1_add_46 ?_
  refine lv_topi (fun z105 ez105 => ?_)
  refine lv_iadd hx hb dX1_add_47 ?_
  refine lv_topi (fun z106 ez106 => ?_)
  refine va_put (D := (dC, dI)) (ci := 1) (v := .int z106) (ty := .int) (C := RX1) (T := TX1) (N := 5) hx hb hts hinX1 tyX1 tyX1_ok nmX1 hown hK hP (hD.to rfl) hS 0 rfl rfl 4 (by decide) (hts (.fieldLink RX1 26 "SlipstreamCache$Choice" "sum" "I") (List.mem_of_getElem? (i := 4) rfl)) (fun _ h9 => h9) rfl (by decide +kernel) rfl rfl (Nat.le_of_ble_eq_true rfl) dX1_add_48 (fun H locs hP _ hS => ?_)
  have hP : va_P (dC, dI) vqCl [(a0, .inr (1, [.ref a0_chosen, .ref a0_worths, .ref a0_order, .int z104, .int z106])), (a0_chosen, .inl (cZ, 32, .inl f102)), (a0_worths, .inl (cI, 32, .inl f_a0_worths)), (a0_order, .inl (cI, 32, .inl f103))] H := hP
  subst hQ
  exact W.vret hx hb hr (fun t ht hW => ⟨⟨(z104, z106, f102, f103), rfl, ⟨iv_m qz104.2 (by decide) (by decide), iv_m tf102 (by decide) (by decide), rg.mono rf102 (by decide) (by decide), rg.mono rf103 (by decide) (by decide), (by show z104.toInt = v_a0_count.toInt + 1; omega), (by show f103 = upd f_a0_order (v_a0_count).toNatClampNeg p1; assumption), (by show f102 = upd f_a0_chosen (p1).toNatClampNeg 1; assumption), trivial⟩, pAt ht hP⟩, hS.F ht⟩) hS.2.2 dX1_add_51
set_option maxHeartbeats 4000000 in
set_option maxRecDepth 100000 in
theorem kX9_placeOf_40 (l : Launch) (dC : Nat → ClassId) (dI : Nat → Nat → Nat) (cI cZ cC cJ cD : ClassId) (qf : Nat) (sz : Nat) (p1 p2 : Int32) (bp1 : 0 ≤ p1.toInt ∧ p1.toInt ≤ 31) (bp2 : 0 ≤ p2.toInt ∧ p2.toInt ≤ 3) : Met l yX9_placeOf wsX9_placeOf ({ frames := 1, cells := 0, slots := 0, locals := 0 } : Room) (mPre qf [.int p1, .int p2] sz (dC, dI) (mT cI cZ cC cJ cD) []) (mQi (fun (r : Int32) (u : Unit) => (0 ≤ r.toInt ∧ r.toInt ≤ 63) ∧ True) (fun (u : Unit) => []) (dC, dI) (va_A [] sz)) 0 0 (va_A [] sz) := by
  refine mMet (Qc := fun A => mQi (fun (r : Int32) (u : Unit) => (0 ≤ r.toInt ∧ r.toInt ≤ 63) ∧ True) (fun (u : Unit) => []) (dC, dI) A) (y := yX9_placeOf) (ws := wsX9_placeOf) (av := [.int p1, .int p2]) (wc := []) (cc := cX9_placeOf) (maxL := 2) (ret := (some .int)) (own := RX9) (by decide) rfl rfl (Nat.le_of_ble_eq_true rfl) ?_
  intro p e s m args below meth c hx hb hr hts hown hml hlk A hsz hP hK hD hS hA hE ls hl Q hQ
  have hl : lv_has ls 2 [(0, .int p1), (1, .int p2)] := hl
  refine lv_iload_n hx hb dX9_placeOf_0 rfl (lv_at hl 1 rfl) ?_
  refine lv_bipush (v := 16) hx hb dX9_placeOf_1 (by decide) ?_
  refine lv_imul hx hb dX9_placeOf_3 ?_
  refine lv_topi (fun z101 ez101 => ?_)
  have qz101 := iv_mul (lo := 0) (hi := 48) ez101 bp2 (iv_k 16 (k := 16) (by decide)) (by decide) (by decide) (by decide) (by decide) (by decide) (by decide) 
  try rw [show (16 : Int32).toInt = 16 from rfl] at qz101
  refine lv_iload_n hx hb dX9_placeOf_4 rfl (lv_at hl 0 rfl) ?_
  refine va_getsN hx hb hE.1 hS hown (hE.2.2.2.2.1.use rfl) (fun _ h9 => h9) dX9_placeOf_5 ?_
  refine lv_iload_n hx hb dX9_placeOf_8 rfl (lv_at hl 1 rfl) ?_
  refine va_ti (v := .int (fRF (p2).toNatClampNeg)) hx hb hE.2.1 hS (iv_in bp2 (by decide) (by decide)) rfl dX9_placeOf_9 ?_
  refine lv_topi (fun z102 ez102 => ?_)
  have bz102 : 5 ≤ z102.toInt ∧ z102.toInt ≤ 13 := iv_at rgRF bp2 (by decide) (by decide) ez102
  refine lv_imul hx hb dX9_placeOf_10 ?_
  refine lv_topi (fun z103 ez103 => ?_)
  have qz103 := iv_mul (lo := 0) (hi := 403) ez103 bp1 bz102 (by decide) (by decide) (by decide) (by decide) (by decide) (by decide) 
  refine lv_iconst (v := 3) hx hb dX9_placeOf_11 (by decide) ?_
  refine lv_iload_n hx hb dX9_placeOf_12 rfl (lv_at hl 1 rfl) ?_
  refine lv_imul hx hb dX9_placeOf_13 ?_
  refine lv_topi (fun z104 ez104 => ?_)
  have qz104 := iv_mul (lo := 0) (hi := 9) ez104 (iv_k 3 (k := 3) (by decide)) bp2 (by decide) (by decide) (by decide) (by decide) (by decide) (by decide) 
  try rw [show (3 : Int32).toInt = 3 from rfl] at qz104
  refine lv_iadd hx hb dX9_placeOf_14 ?_
  refine lv_topi (fun z105 ez105 => ?_)
  have qz105 := iv_add (lo := 0) (hi := 412) ez105 qz103.2 qz104.2 (by decide) (by decide) (by decide) (by decide) 
  refine lv_bipush (v := 15) hx hb dX9_placeOf_15 (by decide) ?_
  refine lv_iand hx hb dX9_placeOf_17 ?_
  refine lv_topi (fun z106 ez106 => ?_)
  have qz106 : 0 ≤ z106.toInt ∧ z106.toInt ≤ 15 := iv_and ez106 (k := 4) (by decide) (by decide) (by decide)
  refine lv_iadd hx hb dX9_placeOf_18 ?_
  refine lv_topi (fun z107 ez107 => ?_)
  have qz107 := iv_add (lo := 0) (hi := 63) ez107 qz101.2 qz106 (by decide) (by decide) (by decide) (by decide) 
  subst hQ
  exact W.iret (v := z107) hx hb hr (fun t ht hW => ⟨⟨z107, (), rfl, ⟨iv_m qz107.2 (by decide) (by decide), trivial⟩, pAt ht hP⟩, hS.F ht⟩) hS.2.2 dX9_placeOf_19
set_option maxHeartbeats 4000000 in
set_option maxRecDepth 100000 in
theorem kX9_leastOf_10 (l : Launch) (dC : Nat → ClassId) (dI : Nat → Nat → Nat) (cI cZ cC cJ cD : ClassId) (qf : Nat) (a0 a0_counters : Nat) (sz : Nat) (f_a0_counters : Nat → Int32) (v_a0_counted p1 : Int32) (rf_a0_counters : rg 0 15 64 f_a0_counters) (bv_a0_counted : 0 ≤ v_a0_counted.toInt ∧ v_a0_counted.toInt ≤ 63) (bp1 : 0 ≤ p1.toInt ∧ p1.toInt ≤ 31) : Met l yX9_leastOf wsX9_leastOf ({ frames := 2, cells := 0, slots := 0, locals := 21 } : Room) (mPre qf [.ref a0, .int p1] sz (dC, dI) (mT cI cZ cC cJ cD) [(a0, .inr (9, [.ref a0_counters, .int v_a0_counted])), (a0_counters, .inl (cI, 64, .inl f_a0_counters))]) (mQi (fun (r : Int32) (u : Unit) => (0 ≤ r.toInt ∧ r.toInt ≤ 15) ∧ True) (fun (u : Unit) => [(a0, .inr (9, [.ref a0_counters, .int v_a0_counted])), (a0_counters, .inl (cI, 64, .inl f_a0_counters))]) (dC, dI) (va_A [(a0, .inr (9, [.ref a0_counters, .int v_a0_counted])), (a0_counters, .inl (cI, 64, .inl f_a0_counters))] sz)) 0 0 (va_A [(a0, .inr (9, [.ref a0_counters, .int v_a0_counted])), (a0_counters, .inl (cI, 64, .inl f_a0_counters))] sz) := by
  refine mMet (Qc := fun A => mQi (fun (r : Int32) (u : Unit) => (0 ≤ r.toInt ∧ r.toInt ≤ 15) ∧ True) (fun (u : Unit) => [(a0, .inr (9, [.ref a0_counters, .int v_a0_counted])), (a0_counters, .inl (cI, 64, .inl f_a0_counters))]) (dC, dI) A) (y := yX9_leastOf) (ws := wsX9_leastOf) (av := [.ref a0, .int p1]) (wc := [(a0, .inr (9, [.ref a0_counters, .int v_a0_counted])), (a0_counters, .inl (cI, 64, .inl f_a0_counters))]) (cc := cX9_leastOf) (maxL := 5) (ret := (some .int)) (own := RX9) (by decide) rfl rfl (Nat.le_of_ble_eq_true rfl) ?_
  intro p e s m args below meth c hx hb hr hts hown hml hlk A hsz hP hK hD hS hA hE ls hl Q hQ
  have hl : lv_has ls 5 [(0, .ref a0), (1, .int p1)] := hl
  have hinX9 : ∀ w ∈ u_ws RX9 TX9 2, w ∈ wsX9_leastOf := fun w h => List.mem_cons_of_mem _ (List.mem_append_left _ (List.mem_append_right _ h))
  refine lv_bipush (v := 15) hx hb dX9_leastOf_0 (by decide) ?_
  refine lv_istore_n (lv' := [(2, .int 15), (0, .ref a0), (1, .int p1)]) hx hb dX9_leastOf_2 rfl hl (by decide) rfl (fun ls hl => ?_)
  refine lv_iconst (v := 0) hx hb dX9_leastOf_3 (by decide) ?_
  refine lv_istore_n (lv' := [(3, .int 0), (2, .int 15), (0, .ref a0), (1, .int p1)]) hx hb dX9_leastOf_4 rfl hl (by decide) rfl (fun ls hl => ?_)
  have L5_100 : ∀ (n : Nat) (k5_3 : Int32) (k5_2 : Int32), (0 ≤ k5_3.toInt ∧ k5_3.toInt ≤ 4) → (0 ≤ k5_2.toInt ∧ k5_2.toInt ≤ 15) → (4 + 1 - k5_3.toInt).toNat < n → ∀ (H : Heap) (locs : List Loc), va_P (dC, dI) vqCl [(a0, .inr (9, [.ref a0_counters, .int v_a0_counted])), (a0_counters, .inl (cI, 64, .inl f_a0_counters))] H → va_S A s.heap H locs → ∀ ls : Array Slot, lv_has ls 5 [(3, .int k5_3), (2, .int k5_2), (0, .ref a0), (1, .int p1)] → W p l e ({ frames := 2, cells := 0, slots := 0, locals := 21 } : Room) s m args below meth c H locs 0 0 Q (F0 m 5 ls []) := by
    intro n
    induction n with
    | zero =>
      intro k5_3 k5_2 bk5_3 bk5_2 hm
      exact absurd hm (Nat.not_lt_zero _)
    | succ n ih5 =>
      intro k5_3 k5_2 bk5_3 bk5_2 hm H locs hP hS ls hl
      refine lv_iload_n hx hb dX9_leastOf_5 rfl (lv_at hl 0 rfl) ?_
      refine lv_iconst (v := 4) hx hb dX9_leastOf_6 (by decide) ?_
      refine lv_icmp_ge (tgt := 41) hx hb dX9_leastOf_7 (by decide) (fun c102 => ?_) (fun c102 => ?_)
      · have c102 := c_le c102
        have bk5_3_c102 : 4 ≤ k5_3.toInt ∧ k5_3.toInt ≤ 4 := l_le bk5_3 (iv_k 4 (k := 4) (by decide)) c102 (by decide) (by decide)
        refine lv_iload_n hx hb dX9_leastOf_41 rfl (lv_at hl 1 rfl) ?_
        subst hQ
        exact W.iret (v := k5_2) hx hb hr (fun t ht hW => ⟨⟨k5_2, (), rfl, ⟨iv_m bk5_2 (by decide) (by decide), trivial⟩, pAt ht hP⟩, hS.F ht⟩) hS.2.2 dX9_leastOf_42
      · have c102 := c_nle c102
        have bk5_3_c102 : 0 ≤ k5_3.toInt ∧ k5_3.toInt ≤ 3 := u_lt bk5_3 (iv_k 4 (k := 4) (by decide)) c102 (by decide) (by decide)
        refine lv_aload_n hx hb dX9_leastOf_10 rfl (lv_at hl 2 rfl) ?_
        refine va_get (D := (dC, dI)) (ci := 9) (v := .ref a0_counters) (C := RX9) (T := TX9) (N := 2) hx hb hts hinX9 hown hK hP 0 rfl rfl 0 (by decide) (hts (.fieldLink RX9 9 "SlipstreamCache$Sketch" "counters" "[I") (List.mem_of_getElem? (i := 1) rfl)) (fun _ h9 => h9) rfl dX9_leastOf_11 ?_
        refine lv_iload_n hx hb dX9_leastOf_14 rfl (lv_at hl 3 rfl) ?_
        refine lv_iload_n hx hb dX9_leastOf_15 rfl (lv_at hl 0 rfl) ?_
        have hM := kX9_placeOf_40 l dC dI cI cZ cC cJ cD qf  H.size p1 k5_3 (iv_m bp1 (by decide) (by decide)) (iv_m bk5_3_c102 (by decide) (by decide))
        refine mSi (As := [.int p1, .int k5_3]) (rest := [.ref a0_counters]) (wc := []) ⟨hx, hb, hml, hown, hts⟩ hM (va_cwS 2 hts gX9_leastOf_X9_placeOf rfl rfl rfl (by decide +kernel) ⟨(Nat.le_of_ble_eq_true rfl), (Nat.le_of_ble_eq_true rfl)⟩) hE hK hP hD rfl hS hA [] rfl (by decide +kernel) rfl hl rfl (Nat.le_of_ble_eq_true rfl) dX9_leastOf_16 ⟨(Nat.le_of_ble_eq_true rfl), (Nat.le_of_ble_eq_true rfl)⟩ (fun _ => rfl) (fun z103 uu104 H locs hw hP hS => ?_)
        have bz103 : 0 ≤ z103.toInt ∧ z103.toInt ≤ 63 := hw.1
        have hP : va_P (dC, dI) vqCl [(a0, .inr (9, [.ref a0_counters, .int v_a0_counted])), (a0_counters, .inl (cI, 64, .inl f_a0_counters))] H := hP
        refine va_iald hx hb hK hP 1 0 rfl rfl (iv_in bz103 (by decide) (by decide)) dX9_leastOf_19 ?_
        refine lv_topi (fun z105 ez105 => ?_)
        have bz105 : 0 ≤ z105.toInt ∧ z105.toInt ≤ 15 := iv_at rf_a0_counters bz103 (by decide) (by decide) ez105
        refine lv_istore (lv' := [(4, .int z105), (3, .int k5_3), (2, .int k5_2), (0, .ref a0), (1, .int p1)]) hx hb dX9_leastOf_20 hl (by decide) rfl (fun ls hl => ?_)
        refine lv_iload hx hb dX9_leastOf_22 (lv_at hl 0 rfl) ?_
        refine lv_iload_n hx hb dX9_leastOf_24 rfl (lv_at hl 2 rfl) ?_
        refine lv_icmp_ge (tgt := 33) hx hb dX9_leastOf_25 (by decide) (fun c106 => ?_) (fun c106 => ?_)
        · have c106 := c_le c106
          refine lv_iload_n hx hb dX9_leastOf_33 rfl (lv_at hl 2 rfl) ?_
          refine lv_istore_n (lv' := [(2, .int k5_2), (4, .int z105), (3, .int k5_3), (0, .ref a0), (1, .int p1)]) hx hb dX9_leastOf_34 rfl hl (by decide) rfl (fun ls hl => ?_)
          obtain ⟨z107, ez107⟩ : ∃ y : Int32, y = k5_3 + 1 := ⟨_, rfl⟩
          refine lv_iinc (v := z107) (lv' := [(3, .int z107), (2, .int k5_2), (4, .int z105), (0, .ref a0), (1, .int p1)]) hx hb dX9_leastOf_35 hl (k := 2) rfl (by rw [ez107]; rfl) (by decide) rfl (fun ls hl => ?_)
          have qz107 := iv_add (lo := 1) (hi := 4) ez107 bk5_3_c102 (iv_k 1 (k := 1) (by decide)) (by decide) (by decide) (by decide) (by decide)
          try rw [show (1 : Int32).toInt = 1 from rfl] at qz107
          refine lv_goto (tgt := 5) hx hb dX9_leastOf_38 (by decide) ?_
          exact ih5 z107 k5_2 (iv_m qz107.2 (by decide) (by decide)) (iv_m bk5_2 (by decide) (by decide)) (by omega) _ _ hP hS ls (lv_sub hl [0, 1, 3, 4] rfl)
        · have c106 := c_nle c106
          have bz105_c106 : 0 ≤ z105.toInt ∧ z105.toInt ≤ 14 := u_lt bz105 bk5_2 c106 (by decide) (by decide)
          have bk5_2_c106 : 1 ≤ k5_2.toInt ∧ k5_2.toInt ≤ 15 := l_lt bk5_2 bz105_c106 c106 (by decide) (by decide)
          refine lv_iload hx hb dX9_leastOf_28 (lv_at hl 0 rfl) ?_
          refine lv_goto (tgt := 34) hx hb dX9_leastOf_30 (by decide) ?_
          refine lv_istore_n (lv' := [(2, .int z105), (4, .int z105), (3, .int k5_3), (0, .ref a0), (1, .int p1)]) hx hb dX9_leastOf_34 rfl hl (by decide) rfl (fun ls hl => ?_)
          obtain ⟨z108, ez108⟩ : ∃ y : Int32, y = k5_3 + 1 := ⟨_, rfl⟩
          refine lv_iinc (v := z108) (lv' := [(3, .int z108), (2, .int z105), (4, .int z105), (0, .ref a0), (1, .int p1)]) hx hb dX9_leastOf_35 hl (k := 2) rfl (by rw [ez108]; rfl) (by decide) rfl (fun ls hl => ?_)
          have qz108 := iv_add (lo := 1) (hi := 4) ez108 bk5_3_c102 (iv_k 1 (k := 1) (by decide)) (by decide) (by decide) (by decide) (by decide)
          try rw [show (1 : Int32).toInt = 1 from rfl] at qz108
          refine lv_goto (tgt := 5) hx hb dX9_leastOf_38 (by decide) ?_
          exact ih5 z108 z105 (iv_m qz108.2 (by decide) (by decide)) (iv_m bz105_c106 (by decide) (by decide)) (by omega) _ _ hP hS ls (lv_sub hl [0, 1, 3, 4] rfl)
  exact L5_100 _ (0 : Int32) (15 : Int32) (iv_m (iv_k 0 (k := 0) (by decide)) (by decide) (by decide)) (iv_m (iv_k 15 (k := 15) (by decide)) (by decide) (by decide)) (Nat.lt_succ_self _) _ _ hP hS ls (lv_sub hl [0, 1, 2, 3] rfl)
set_option maxHeartbeats 4000000 in
set_option maxRecDepth 100000 in
theorem kX11_worth_10 (l : Launch) (dC : Nat → ClassId) (dI : Nat → Nat → Nat) (cI cZ cC cJ cD : ClassId) (qf : Nat) (a0 a0_keys a0_store a0_mirror a0_sketch a0_memory a0_flash a0_pledges a0_leases a0_answers a0_choice a0_incoming a0_keys_sizes a0_keys_costs a0_keys_groups a0_keys_numbers a0_sketch_counters : Nat) (sz : Nat) (f_a0_keys_costs : Nat → Int32) (f_a0_sketch_counters : Nat → Int32) (v_a0_now v_a0_down v_a0_sketch_counted p1 : Int32) (rf_a0_keys_costs : rg 1 9 32 f_a0_keys_costs) (rf_a0_sketch_counters : rg 0 15 64 f_a0_sketch_counters) (bv_a0_now : 0 ≤ v_a0_now.toInt ∧ v_a0_now.toInt ≤ 5000) (bv_a0_down : 0 ≤ v_a0_down.toInt ∧ v_a0_down.toInt ≤ 1) (bv_a0_sketch_counted : 0 ≤ v_a0_sketch_counted.toInt ∧ v_a0_sketch_counted.toInt ≤ 63) (bp1 : 0 ≤ p1.toInt ∧ p1.toInt ≤ 31) : Met l yX11_worth wsX11_worth ({ frames := 3, cells := 0, slots := 0, locals := 45 } : Room) (mPre qf [.ref a0, .int p1] sz (dC, dI) (mT cI cZ cC cJ cD) [(a0, .inr (11, [.ref a0_keys, .ref a0_store, .ref a0_mirror, .ref a0_sketch, .ref a0_memory, .ref a0_flash, .ref a0_pledges, .ref a0_leases, .ref a0_answers, .ref a0_choice, .ref a0_incoming, .int v_a0_now, .int v_a0_down])), (a0_keys, .inr (4, [.ref a0_keys_sizes, .ref a0_keys_costs, .ref a0_keys_groups, .ref a0_keys_numbers])), (a0_sketch, .inr (9, [.ref a0_sketch_counters, .int v_a0_sketch_counted])), (a0_keys_costs, .inl (cI, 32, .inl f_a0_keys_costs)), (a0_sketch_counters, .inl (cI, 64, .inl f_a0_sketch_counters))]) (mQi (fun (r : Int32) (u : Unit) => (0 ≤ r.toInt ∧ r.toInt ≤ 135) ∧ True) (fun (u : Unit) => [(a0, .inr (11, [.ref a0_keys, .ref a0_store, .ref a0_mirror, .ref a0_sketch, .ref a0_memory, .ref a0_flash, .ref a0_pledges, .ref a0_leases, .ref a0_answers, .ref a0_choice, .ref a0_incoming, .int v_a0_now, .int v_a0_down])), (a0_keys, .inr (4, [.ref a0_keys_sizes, .ref a0_keys_costs, .ref a0_keys_groups, .ref a0_keys_numbers])), (a0_sketch, .inr (9, [.ref a0_sketch_counters, .int v_a0_sketch_counted])), (a0_keys_costs, .inl (cI, 32, .inl f_a0_keys_costs)), (a0_sketch_counters, .inl (cI, 64, .inl f_a0_sketch_counters))]) (dC, dI) (va_A [(a0, .inr (11, [.ref a0_keys, .ref a0_store, .ref a0_mirror, .ref a0_sketch, .ref a0_memory, .ref a0_flash, .ref a0_pledges, .ref a0_leases, .ref a0_answers, .ref a0_choice, .ref a0_incoming, .int v_a0_now, .int v_a0_down])), (a0_keys, .inr (4, [.ref a0_keys_sizes, .ref a0_keys_costs, .ref a0_keys_groups, .ref a0_keys_numbers])), (a0_sketch, .inr (9, [.ref a0_sketch_counters, .int v_a0_sketch_counted])), (a0_keys_costs, .inl (cI, 32, .inl f_a0_keys_costs)), (a0_sketch_counters, .inl (cI, 64, .inl f_a0_sketch_counters))] sz)) 0 0 (va_A [(a0, .inr (11, [.ref a0_keys, .ref a0_store, .ref a0_mirror, .ref a0_sketch, .ref a0_memory, .ref a0_flash, .ref a0_pledges, .ref a0_leases, .ref a0_answers, .ref a0_choice, .ref a0_incoming, .int v_a0_now, .int v_a0_down])), (a0_keys, .inr (4, [.ref a0_keys_sizes, .ref a0_keys_costs, .ref a0_keys_groups, .ref a0_keys_numbers])), (a0_sketch, .inr (9, [.ref a0_sketch_counters, .int v_a0_sketch_counted])), (a0_keys_costs, .inl (cI, 32, .inl f_a0_keys_costs)), (a0_sketch_counters, .inl (cI, 64, .inl f_a0_sketch_counters))] sz) := by
  refine mMet (Qc := fun A => mQi (fun (r : Int32) (u : Unit) => (0 ≤ r.toInt ∧ r.toInt ≤ 135) ∧ True) (fun (u : Unit) => [(a0, .inr (11, [.ref a0_keys, .ref a0_store, .ref a0_mirror, .ref a0_sketch, .ref a0_memory, .ref a0_flash, .ref a0_pledges, .ref a0_leases, .ref a0_answers, .ref a0_choice, .ref a0_incoming, .int v_a0_now, .int v_a0_down])), (a0_keys, .inr (4, [.ref a0_keys_sizes, .ref a0_keys_costs, .ref a0_keys_groups, .ref a0_keys_numbers])), (a0_sketch, .inr (9, [.ref a0_sketch_counters, .int v_a0_sketch_counted])), (a0_keys_costs, .inl (cI, 32, .inl f_a0_keys_costs)), (a0_sketch_counters, .inl (cI, 64, .inl f_a0_sketch_counters))]) (dC, dI) A) (y := yX11_worth) (ws := wsX11_worth) (av := [.ref a0, .int p1]) (wc := [(a0, .inr (11, [.ref a0_keys, .ref a0_store, .ref a0_mirror, .ref a0_sketch, .ref a0_memory, .ref a0_flash, .ref a0_pledges, .ref a0_leases, .ref a0_answers, .ref a0_choice, .ref a0_incoming, .int v_a0_now, .int v_a0_down])), (a0_keys, .inr (4, [.ref a0_keys_sizes, .ref a0_keys_costs, .ref a0_keys_groups, .ref a0_keys_numbers])), (a0_sketch, .inr (9, [.ref a0_sketch_counters, .int v_a0_sketch_counted])), (a0_keys_costs, .inl (cI, 32, .inl f_a0_keys_costs)), (a0_sketch_counters, .inl (cI, 64, .inl f_a0_sketch_counters))]) (cc := cX11_worth) (maxL := 2) (ret := (some .int)) (own := RX11) (by decide) rfl rfl (Nat.le_of_ble_eq_true rfl) ?_
  intro p e s m args below meth c hx hb hr hts hown hml hlk A hsz hP hK hD hS hA hE ls hl Q hQ
  have hl : lv_has ls 2 [(0, .ref a0), (1, .int p1)] := hl
  have hinX11 : ∀ w ∈ u_ws RX11 TX11 13, w ∈ wsX11_worth := fun w h => List.mem_cons_of_mem _ (List.mem_append_left _ (List.mem_append_left _ (List.mem_append_left _ (List.mem_append_right _ h))))
  have hinX4 : ∀ w ∈ u_ws RX4 TX4 4, w ∈ wsX11_worth := fun w h => List.mem_cons_of_mem _ (List.mem_append_left _ (List.mem_append_left _ (List.mem_append_right _ h)))
  refine lv_aload_n hx hb dX11_worth_0 rfl (lv_at hl 0 rfl) ?_
  refine va_get (D := (dC, dI)) (ci := 11) (v := .ref a0_sketch) (C := RX11) (T := TX11) (N := 13) hx hb hts hinX11 hown hK hP 0 rfl rfl 3 (by decide) (hts (.fieldLink RX11 33 "SlipstreamCache" "sketch" "LSlipstreamCache$Sketch;") (List.mem_of_getElem? (i := 1) rfl)) (fun _ h9 => h9) rfl dX11_worth_1 ?_
  refine lv_iload_n hx hb dX11_worth_4 rfl (lv_at hl 1 rfl) ?_
  have hM := kX9_leastOf_10 l dC dI cI cZ cC cJ cD qf a0_sketch a0_sketch_counters s.heap.size f_a0_sketch_counters v_a0_sketch_counted p1 (rg.mono rf_a0_sketch_counters (by decide) (by decide)) (iv_m bv_a0_sketch_counted (by decide) (by decide)) (iv_m bp1 (by decide) (by decide))
  refine mVi (As := [.int p1]) (rest := []) (wc := [(a0_sketch, .inr (9, [.ref a0_sketch_counters, .int v_a0_sketch_counted])), (a0_sketch_counters, .inl (cI, 64, .inl f_a0_sketch_counters))]) ⟨hx, hb, hml, hown, hts⟩ hM (cwV 1 hts gX11_worth_X9_leastOf rfl rfl rfl (by decide +kernel) ⟨(Nat.le_of_ble_eq_true rfl), (Nat.le_of_ble_eq_true rfl)⟩) hE hK hP hD rfl hS hA [2, 4] rfl (by decide +kernel) (qr := 2) (cr := 9) rfl rfl rfl rfl hl rfl (Nat.le_of_ble_eq_true rfl) dX11_worth_5 ⟨(Nat.le_of_ble_eq_true rfl), (Nat.le_of_ble_eq_true rfl)⟩ (fun _ => rfl) (fun z101 uu102 H locs hw hP hS => ?_)
  have bz101 : 0 ≤ z101.toInt ∧ z101.toInt ≤ 15 := hw.1
  have hP : va_P (dC, dI) vqCl [(a0, .inr (11, [.ref a0_keys, .ref a0_store, .ref a0_mirror, .ref a0_sketch, .ref a0_memory, .ref a0_flash, .ref a0_pledges, .ref a0_leases, .ref a0_answers, .ref a0_choice, .ref a0_incoming, .int v_a0_now, .int v_a0_down])), (a0_keys, .inr (4, [.ref a0_keys_sizes, .ref a0_keys_costs, .ref a0_keys_groups, .ref a0_keys_numbers])), (a0_sketch, .inr (9, [.ref a0_sketch_counters, .int v_a0_sketch_counted])), (a0_keys_costs, .inl (cI, 32, .inl f_a0_keys_costs)), (a0_sketch_counters, .inl (cI, 64, .inl f_a0_sketch_counters))] H := hP
  refine lv_aload_n hx hb dX11_worth_8 rfl (lv_at hl 0 rfl) ?_
  refine va_get (D := (dC, dI)) (ci := 11) (v := .ref a0_keys) (C := RX11) (T := TX11) (N := 13) hx hb hts hinX11 hown hK hP 0 rfl rfl 0 (by decide) (hts (.fieldLink RX11 12 "SlipstreamCache" "keys" "LSlipstreamCache$Keys;") (List.mem_of_getElem? (i := 2) rfl)) (fun _ h9 => h9) rfl dX11_worth_9 ?_
  refine va_get (D := (dC, dI)) (ci := 4) (v := .ref a0_keys_costs) (C := RX4) (T := TX4) (N := 4) hx hb hts hinX4 hown hK hP 1 rfl rfl 1 (by decide) (hts (.fieldLink RX11 128 "SlipstreamCache$Keys" "costs" "[I") (List.mem_of_getElem? (i := 3) rfl)) (fun _ h9 => h9) rfl dX11_worth_12 ?_
  refine lv_iload_n hx hb dX11_worth_15 rfl (lv_at hl 1 rfl) ?_
  refine va_iald hx hb hK hP 3 0 rfl rfl (iv_in bp1 (by decide) (by decide)) dX11_worth_16 ?_
  refine lv_topi (fun z103 ez103 => ?_)
  have bz103 : 1 ≤ z103.toInt ∧ z103.toInt ≤ 9 := iv_at rf_a0_keys_costs bp1 (by decide) (by decide) ez103
  refine lv_imul hx hb dX11_worth_17 ?_
  refine lv_topi (fun z104 ez104 => ?_)
  have qz104 := iv_mul (lo := 0) (hi := 135) ez104 bz101 bz103 (by decide) (by decide) (by decide) (by decide) (by decide) (by decide) 
  subst hQ
  exact W.iret (v := z104) hx hb hr (fun t ht hW => ⟨⟨z104, (), rfl, ⟨iv_m qz104.2 (by decide) (by decide), trivial⟩, pAt ht hP⟩, hS.F ht⟩) hS.2.2 dX11_worth_18
set_option maxHeartbeats 4000000 in
set_option maxRecDepth 100000 in
theorem kX11_chooseLeavers_1 (l : Launch) (dC : Nat → ClassId) (dI : Nat → Nat → Nat) (cI cZ cC cJ cD : ClassId) (qf : Nat) (a0 a0_keys a0_store a0_mirror a0_sketch a0_memory a0_flash a0_pledges a0_leases a0_answers a0_choice a0_incoming a0_keys_sizes a0_keys_costs a0_keys_groups a0_keys_numbers a0_sketch_counters a0_memory_copies a0_memory_present a0_memory_usedAt a0_pledges_waiting a0_pledges_values a0_pledges_due a0_choice_chosen a0_choice_worths a0_choice_order : Nat) (sz : Nat) (f_a0_keys_sizes : Nat → Int32) (f_a0_keys_costs : Nat → Int32) (f_a0_sketch_counters : Nat → Int32) (f_a0_memory_present : Nat → Int32) (f_a0_memory_usedAt : Nat → Int32) (f_a0_pledges_waiting : Nat → Int32) (f_a0_choice_chosen : Nat → Int32) (f_a0_choice_worths : Nat → Int32) (f_a0_choice_order : Nat → Int32) (v_a0_now v_a0_down v_a0_sketch_counted v_a0_memory_uses v_a0_memory_filled v_a0_pledges_count v_a0_choice_count v_a0_choice_sum p1 : Int32) (rf_a0_keys_sizes : rg 1 4 32 f_a0_keys_sizes) (rf_a0_keys_costs : rg 1 9 32 f_a0_keys_costs) (rf_a0_sketch_counters : rg 0 15 64 f_a0_sketch_counters) (rf_a0_memory_present : rg 0 1 32 f_a0_memory_present) (rf_a0_pledges_waiting : rg 0 1 32 f_a0_pledges_waiting) (rf_a0_choice_chosen : rg 0 1 32 f_a0_choice_chosen) (rf_a0_choice_order : rg 0 31 32 f_a0_choice_order) (bv_a0_now : 0 ≤ v_a0_now.toInt ∧ v_a0_now.toInt ≤ 5000) (bv_a0_down : 0 ≤ v_a0_down.toInt ∧ v_a0_down.toInt ≤ 1) (bv_a0_sketch_counted : 0 ≤ v_a0_sketch_counted.toInt ∧ v_a0_sketch_counted.toInt ≤ 63) (bv_a0_memory_filled : 0 ≤ v_a0_memory_filled.toInt ∧ v_a0_memory_filled.toInt ≤ 12) (bv_a0_pledges_count : 0 ≤ v_a0_pledges_count.toInt ∧ v_a0_pledges_count.toInt ≤ 32) (bv_a0_choice_count : 0 ≤ v_a0_choice_count.toInt ∧ v_a0_choice_count.toInt ≤ 32) (bp1 : 0 ≤ p1.toInt ∧ p1.toInt ≤ 31) : Met l yX11_chooseLeavers wsX11_chooseLeavers ({ frames := 4, cells := 0, slots := 0, locals := 66 } : Room) (mPre qf [.ref a0, .int p1] sz (dC, dI) (mT cI cZ cC cJ cD) [(a0, .inr (11, [.ref a0_keys, .ref a0_store, .ref a0_mirror, .ref a0_sketch, .ref a0_memory, .ref a0_flash, .ref a0_pledges, .ref a0_leases, .ref a0_answers, .ref a0_choice, .ref a0_incoming, .int v_a0_now, .int v_a0_down])), (a0_keys, .inr (4, [.ref a0_keys_sizes, .ref a0_keys_costs, .ref a0_keys_groups, .ref a0_keys_numbers])), (a0_sketch, .inr (9, [.ref a0_sketch_counters, .int v_a0_sketch_counted])), (a0_memory, .inr (6, [.ref a0_memory_copies, .ref a0_memory_present, .ref a0_memory_usedAt, .int v_a0_memory_uses, .int v_a0_memory_filled])), (a0_pledges, .inr (8, [.ref a0_pledges_waiting, .ref a0_pledges_values, .ref a0_pledges_due, .int v_a0_pledges_count])), (a0_choice, .inr (1, [.ref a0_choice_chosen, .ref a0_choice_worths, .ref a0_choice_order, .int v_a0_choice_count, .int v_a0_choice_sum])), (a0_keys_sizes, .inl (cI, 32, .inl f_a0_keys_sizes)), (a0_keys_costs, .inl (cI, 32, .inl f_a0_keys_costs)), (a0_sketch_counters, .inl (cI, 64, .inl f_a0_sketch_counters)), (a0_memory_present, .inl (cZ, 32, .inl f_a0_memory_present)), (a0_memory_usedAt, .inl (cI, 32, .inl f_a0_memory_usedAt)), (a0_pledges_waiting, .inl (cZ, 32, .inl f_a0_pledges_waiting)), (a0_choice_chosen, .inl (cZ, 32, .inl f_a0_choice_chosen)), (a0_choice_worths, .inl (cI, 32, .inl f_a0_choice_worths)), (a0_choice_order, .inl (cI, 32, .inl f_a0_choice_order))]) (mQi (fun (r : Int32) (u : (Int32) × (Int32) × (Nat → Int32) × (Nat → Int32) × (Nat → Int32)) => (0 ≤ r.toInt ∧ r.toInt ≤ 1) ∧ (0 ≤ (u.1).toInt ∧ (u.1).toInt ≤ 32) ∧ rg 0 1 32 (u.2.2.1) ∧ rg 0 31 32 (u.2.2.2.2) ∧ (r.toInt = 1 → CH 0 (u.1).toInt v_a0_memory_filled.toInt (u.2.2.2.2) f_a0_memory_present f_a0_pledges_waiting f_a0_keys_sizes p1) ∧ True) (fun (u : (Int32) × (Int32) × (Nat → Int32) × (Nat → Int32) × (Nat → Int32)) => [(a0, .inr (11, [.ref a0_keys, .ref a0_store, .ref a0_mirror, .ref a0_sketch, .ref a0_memory, .ref a0_flash, .ref a0_pledges, .ref a0_leases, .ref a0_answers, .ref a0_choice, .ref a0_incoming, .int v_a0_now, .int v_a0_down])), (a0_keys, .inr (4, [.ref a0_keys_sizes, .ref a0_keys_costs, .ref a0_keys_groups, .ref a0_keys_numbers])), (a0_sketch, .inr (9, [.ref a0_sketch_counters, .int v_a0_sketch_counted])), (a0_memory, .inr (6, [.ref a0_memory_copies, .ref a0_memory_present, .ref a0_memory_usedAt, .int v_a0_memory_uses, .int v_a0_memory_filled])), (a0_pledges, .inr (8, [.ref a0_pledges_waiting, .ref a0_pledges_values, .ref a0_pledges_due, .int v_a0_pledges_count])), (a0_choice, .inr (1, [.ref a0_choice_chosen, .ref a0_choice_worths, .ref a0_choice_order, .int (u.1), .int (u.2.1)])), (a0_keys_sizes, .inl (cI, 32, .inl f_a0_keys_sizes)), (a0_keys_costs, .inl (cI, 32, .inl f_a0_keys_costs)), (a0_sketch_counters, .inl (cI, 64, .inl f_a0_sketch_counters)), (a0_memory_present, .inl (cZ, 32, .inl f_a0_memory_present)), (a0_memory_usedAt, .inl (cI, 32, .inl f_a0_memory_usedAt)), (a0_pledges_waiting, .inl (cZ, 32, .inl f_a0_pledges_waiting)), (a0_choice_chosen, .inl (cZ, 32, .inl (u.2.2.1))), (a0_choice_worths, .inl (cI, 32, .inl (u.2.2.2.1))), (a0_choice_order, .inl (cI, 32, .inl (u.2.2.2.2)))]) (dC, dI) (va_A [(a0, .inr (11, [.ref a0_keys, .ref a0_store, .ref a0_mirror, .ref a0_sketch, .ref a0_memory, .ref a0_flash, .ref a0_pledges, .ref a0_leases, .ref a0_answers, .ref a0_choice, .ref a0_incoming, .int v_a0_now, .int v_a0_down])), (a0_keys, .inr (4, [.ref a0_keys_sizes, .ref a0_keys_costs, .ref a0_keys_groups, .ref a0_keys_numbers])), (a0_sketch, .inr (9, [.ref a0_sketch_counters, .int v_a0_sketch_counted])), (a0_memory, .inr (6, [.ref a0_memory_copies, .ref a0_memory_present, .ref a0_memory_usedAt, .int v_a0_memory_uses, .int v_a0_memory_filled])), (a0_pledges, .inr (8, [.ref a0_pledges_waiting, .ref a0_pledges_values, .ref a0_pledges_due, .int v_a0_pledges_count])), (a0_choice, .inr (1, [.ref a0_choice_chosen, .ref a0_choice_worths, .ref a0_choice_order, .int v_a0_choice_count, .int v_a0_choice_sum])), (a0_keys_sizes, .inl (cI, 32, .inl f_a0_keys_sizes)), (a0_keys_costs, .inl (cI, 32, .inl f_a0_keys_costs)), (a0_sketch_counters, .inl (cI, 64, .inl f_a0_sketch_counters)), (a0_memory_present, .inl (cZ, 32, .inl f_a0_memory_present)), (a0_memory_usedAt, .inl (cI, 32, .inl f_a0_memory_usedAt)), (a0_pledges_waiting, .inl (cZ, 32, .inl f_a0_pledges_waiting)), (a0_choice_chosen, .inl (cZ, 32, .inl f_a0_choice_chosen)), (a0_choice_worths, .inl (cI, 32, .inl f_a0_choice_worths)), (a0_choice_order, .inl (cI, 32, .inl f_a0_choice_order))] sz)) 0 0 (va_A [(a0, .inr (11, [.ref a0_keys, .ref a0_store, .ref a0_mirror, .ref a0_sketch, .ref a0_memory, .ref a0_flash, .ref a0_pledges, .ref a0_leases, .ref a0_answers, .ref a0_choice, .ref a0_incoming, .int v_a0_now, .int v_a0_down])), (a0_keys, .inr (4, [.ref a0_keys_sizes, .ref a0_keys_costs, .ref a0_keys_groups, .ref a0_keys_numbers])), (a0_sketch, .inr (9, [.ref a0_sketch_counters, .int v_a0_sketch_counted])), (a0_memory, .inr (6, [.ref a0_memory_copies, .ref a0_memory_present, .ref a0_memory_usedAt, .int v_a0_memory_uses, .int v_a0_memory_filled])), (a0_pledges, .inr (8, [.ref a0_pledges_waiting, .ref a0_pledges_values, .ref a0_pledges_due, .int v_a0_pledges_count])), (a0_choice, .inr (1, [.ref a0_choice_chosen, .ref a0_choice_worths, .ref a0_choice_order, .int v_a0_choice_count, .int v_a0_choice_sum])), (a0_keys_sizes, .inl (cI, 32, .inl f_a0_keys_sizes)), (a0_keys_costs, .inl (cI, 32, .inl f_a0_keys_costs)), (a0_sketch_counters, .inl (cI, 64, .inl f_a0_sketch_counters)), (a0_memory_present, .inl (cZ, 32, .inl f_a0_memory_present)), (a0_memory_usedAt, .inl (cI, 32, .inl f_a0_memory_usedAt)), (a0_pledges_waiting, .inl (cZ, 32, .inl f_a0_pledges_waiting)), (a0_choice_chosen, .inl (cZ, 32, .inl f_a0_choice_chosen)), (a0_choice_worths, .inl (cI, 32, .inl f_a0_choice_worths)), (a0_choice_order, .inl (cI, 32, .inl f_a0_choice_order))] sz) := by
  refine mMet (Qc := fun A => mQi (fun (r : Int32) (u : (Int32) × (Int32) × (Nat → Int32) × (Nat → Int32) × (Nat → Int32)) => (0 ≤ r.toInt ∧ r.toInt ≤ 1) ∧ (0 ≤ (u.1).toInt ∧ (u.1).toInt ≤ 32) ∧ rg 0 1 32 (u.2.2.1) ∧ rg 0 31 32 (u.2.2.2.2) ∧ (r.toInt = 1 → CH 0 (u.1).toInt v_a0_memory_filled.toInt (u.2.2.2.2) f_a0_memory_present f_a0_pledges_waiting f_a0_keys_sizes p1) ∧ True) (fun (u : (Int32) × (Int32) × (Nat → Int32) × (Nat → Int32) × (Nat → Int32)) => [(a0, .inr (11, [.ref a0_keys, .ref a0_store, .ref a0_mirror, .ref a0_sketch, .ref a0_memory, .ref a0_flash, .ref a0_pledges, .ref a0_leases, .ref a0_answers, .ref a0_choice, .ref a0_incoming, .int v_a0_now, .int v_a0_down])), (a0_keys, .inr (4, [.ref a0_keys_sizes, .ref a0_keys_costs, .ref a0_keys_groups, .ref a0_keys_numbers])), (a0_sketch, .inr (9, [.ref a0_sketch_counters, .int v_a0_sketch_counted])), (a0_memory, .inr (6, [.ref a0_memory_copies, .ref a0_memory_present, .ref a0_memory_usedAt, .int v_a0_memory_uses, .int v_a0_memory_filled])), (a0_pledges, .inr (8, [.ref a0_pledges_waiting, .ref a0_pledges_values, .ref a0_pledges_due, .int v_a0_pledges_count])), (a0_choice, .inr (1, [.ref a0_choice_chosen, .ref a0_choice_worths, .ref a0_choice_order, .int (u.1), .int (u.2.1)])), (a0_keys_sizes, .inl (cI, 32, .inl f_a0_keys_sizes)), (a0_keys_costs, .inl (cI, 32, .inl f_a0_keys_costs)), (a0_sketch_counters, .inl (cI, 64, .inl f_a0_sketch_counters)), (a0_memory_present, .inl (cZ, 32, .inl f_a0_memory_present)), (a0_memory_usedAt, .inl (cI, 32, .inl f_a0_memory_usedAt)), (a0_pledges_waiting, .inl (cZ, 32, .inl f_a0_pledges_waiting)), (a0_choice_chosen, .inl (cZ, 32, .inl (u.2.2.1))), (a0_choice_worths, .inl (cI, 32, .inl (u.2.2.2.1))), (a0_choice_order, .inl (cI, 32, .inl (u.2.2.2.2)))]) (dC, dI) A) (y := yX11_chooseLeavers) (ws := wsX11_chooseLeavers) (av := [.ref a0, .int p1]) (wc := [(a0, .inr (11, [.ref a0_keys, .ref a0_store, .ref a0_mirror, .ref a0_sketch, .ref a0_memory, .ref a0_flash, .ref a0_pledges, .ref a0_leases, .ref a0_answers, .ref a0_choice, .ref a0_incoming, .int v_a0_now, .int v_a0_down])), (a0_keys, .inr (4, [.ref a0_keys_sizes, .ref a0_keys_costs, .ref a0_keys_groups, .ref a0_keys_numbers])), (a0_sketch, .inr (9, [.ref a0_sketch_counters, .int v_a0_sketch_counted])), (a0_memory, .inr (6, [.ref a0_memory_copies, .ref a0_memory_present, .ref a0_memory_usedAt, .int v_a0_memory_uses, .int v_a0_memory_filled])), (a0_pledges, .inr (8, [.ref a0_pledges_waiting, .ref a0_pledges_values, .ref a0_pledges_due, .int v_a0_pledges_count])), (a0_choice, .inr (1, [.ref a0_choice_chosen, .ref a0_choice_worths, .ref a0_choice_order, .int v_a0_choice_count, .int v_a0_choice_sum])), (a0_keys_sizes, .inl (cI, 32, .inl f_a0_keys_sizes)), (a0_keys_costs, .inl (cI, 32, .inl f_a0_keys_costs)), (a0_sketch_counters, .inl (cI, 64, .inl f_a0_sketch_counters)), (a0_memory_present, .inl (cZ, 32, .inl f_a0_memory_present)), (a0_memory_usedAt, .inl (cI, 32, .inl f_a0_memory_usedAt)), (a0_pledges_waiting, .inl (cZ, 32, .inl f_a0_pledges_waiting)), (a0_choice_chosen, .inl (cZ, 32, .inl f_a0_choice_chosen)), (a0_choice_worths, .inl (cI, 32, .inl f_a0_choice_worths)), (a0_choice_order, .inl (cI, 32, .inl f_a0_choice_order))]) (cc := cX11_chooseLeavers) (maxL := 5) (ret := (some .boolean)) (own := RX11) (by decide) rfl rfl (Nat.le_of_ble_eq_true rfl) ?_
  intro p e s m args below meth c hx hb hr hts hown hml hlk A hsz hP hK hD hS hA hE ls hl Q hQ
  have hl : lv_has ls 5 [(0, .ref a0), (1, .int p1)] := hl
  have hinX11 : ∀ w ∈ u_ws RX11 TX11 13, w ∈ wsX11_chooseLeavers := fun w h => List.mem_cons_of_mem _ (List.mem_append_left _ (List.mem_append_left _ (List.mem_append_left _ (List.mem_append_left _ (List.mem_append_left _ (List.mem_append_left _ (List.mem_append_right _ h)))))))
  have hinX6 : ∀ w ∈ u_ws RX6 TX6 5, w ∈ wsX11_chooseLeavers := fun w h => List.mem_cons_of_mem _ (List.mem_append_left _ (List.mem_append_left _ (List.mem_append_left _ (List.mem_append_left _ (List.mem_append_left _ (List.mem_append_right _ h))))))
  have hinX4 : ∀ w ∈ u_ws RX4 TX4 4, w ∈ wsX11_chooseLeavers := fun w h => List.mem_cons_of_mem _ (List.mem_append_left _ (List.mem_append_left _ (List.mem_append_left _ (List.mem_append_left _ (List.mem_append_right _ h)))))
  have hinX1 : ∀ w ∈ u_ws RX1 TX1 5, w ∈ wsX11_chooseLeavers := fun w h => List.mem_cons_of_mem _ (List.mem_append_left _ (List.mem_append_left _ (List.mem_append_left _ (List.mem_append_right _ h))))
  refine lv_aload_n hx hb dX11_chooseLeavers_0 rfl (lv_at hl 0 rfl) ?_
  refine va_get (D := (dC, dI)) (ci := 11) (v := .ref a0_choice) (C := RX11) (T := TX11) (N := 13) hx hb hts hinX11 hown hK hP 0 rfl rfl 9 (by decide) (hts (.fieldLink RX11 75 "SlipstreamCache" "choice" "LSlipstreamCache$Choice;") (List.mem_of_getElem? (i := 1) rfl)) (fun _ h9 => h9) rfl dX11_chooseLeavers_1 ?_
  have hM := kX1_clear_1 l dC dI cI cZ cC cJ cD qf a0_choice a0_choice_chosen a0_choice_worths a0_choice_order s.heap.size f_a0_choice_chosen v_a0_choice_count v_a0_choice_sum (rg.mono rf_a0_choice_chosen (by decide) (by decide)) (iv_m bv_a0_choice_count (by decide) (by decide))
  refine mVv (As := []) (rest := []) (wc := [(a0_choice, .inr (1, [.ref a0_choice_chosen, .ref a0_choice_worths, .ref a0_choice_order, .int v_a0_choice_count, .int v_a0_choice_sum])), (a0_choice_chosen, .inl (cZ, 32, .inl f_a0_choice_chosen))]) ⟨hx, hb, hml, hown, hts⟩ hM (cwV 0 hts gX11_chooseLeavers_X1_clear rfl rfl rfl (by decide +kernel) ⟨(Nat.le_of_ble_eq_true rfl), (Nat.le_of_ble_eq_true rfl)⟩) hE hK hP hD rfl hS hA [5, 12] rfl (by decide +kernel) (qr := 5) (cr := 1) rfl rfl rfl rfl hl rfl (Nat.le_of_ble_eq_true rfl) dX11_chooseLeavers_4 ⟨(Nat.le_of_ble_eq_true rfl), (Nat.le_of_ble_eq_true rfl)⟩ (fun _ => rfl) (fun uu102 H locs hw hP hS => ?_)
  obtain ⟨g103, g104, g105⟩ := uu102
  have bg103 : 0 ≤ g103.toInt ∧ g103.toInt ≤ 0 := hw.1
  have bg104 : 0 ≤ g104.toInt ∧ g104.toInt ≤ 0 := hw.2.1
  have rg105 : rg 0 1 32 g105 := hw.2.2.1
  have F106 : g103.toInt = 0 := hw.2.2.2.1
  have hP : va_P (dC, dI) vqCl [(a0, .inr (11, [.ref a0_keys, .ref a0_store, .ref a0_mirror, .ref a0_sketch, .ref a0_memory, .ref a0_flash, .ref a0_pledges, .ref a0_leases, .ref a0_answers, .ref a0_choice, .ref a0_incoming, .int v_a0_now, .int v_a0_down])), (a0_keys, .inr (4, [.ref a0_keys_sizes, .ref a0_keys_costs, .ref a0_keys_groups, .ref a0_keys_numbers])), (a0_sketch, .inr (9, [.ref a0_sketch_counters, .int v_a0_sketch_counted])), (a0_memory, .inr (6, [.ref a0_memory_copies, .ref a0_memory_present, .ref a0_memory_usedAt, .int v_a0_memory_uses, .int v_a0_memory_filled])), (a0_pledges, .inr (8, [.ref a0_pledges_waiting, .ref a0_pledges_values, .ref a0_pledges_due, .int v_a0_pledges_count])), (a0_choice, .inr (1, [.ref a0_choice_chosen, .ref a0_choice_worths, .ref a0_choice_order, .int g103, .int g104])), (a0_keys_sizes, .inl (cI, 32, .inl f_a0_keys_sizes)), (a0_keys_costs, .inl (cI, 32, .inl f_a0_keys_costs)), (a0_sketch_counters, .inl (cI, 64, .inl f_a0_sketch_counters)), (a0_memory_present, .inl (cZ, 32, .inl f_a0_memory_present)), (a0_memory_usedAt, .inl (cI, 32, .inl f_a0_memory_usedAt)), (a0_pledges_waiting, .inl (cZ, 32, .inl f_a0_pledges_waiting)), (a0_choice_chosen, .inl (cZ, 32, .inl g105)), (a0_choice_worths, .inl (cI, 32, .inl f_a0_choice_worths)), (a0_choice_order, .inl (cI, 32, .inl f_a0_choice_order))] H := hP
  refine lv_aload_n hx hb dX11_chooseLeavers_7 rfl (lv_at hl 0 rfl) ?_
  refine va_get (D := (dC, dI)) (ci := 11) (v := .ref a0_memory) (C := RX11) (T := TX11) (N := 13) hx hb hts hinX11 hown hK hP 0 rfl rfl 4 (by decide) (hts (.fieldLink RX11 40 "SlipstreamCache" "memory" "LSlipstreamCache$Memory;") (List.mem_of_getElem? (i := 2) rfl)) (fun _ h9 => h9) rfl dX11_chooseLeavers_8 ?_
  refine va_get (D := (dC, dI)) (ci := 6) (v := .ref a0_memory_present) (C := RX6) (T := TX6) (N := 5) hx hb hts hinX6 hown hK hP 3 rfl rfl 1 (by decide) (hts (.fieldLink RX11 292 "SlipstreamCache$Memory" "present" "[Z") (List.mem_of_getElem? (i := 3) rfl)) (fun _ h9 => h9) rfl dX11_chooseLeavers_11 ?_
  refine lv_iload_n hx hb dX11_chooseLeavers_14 rfl (lv_at hl 1 rfl) ?_
  refine va_zald hx hb hK hP 9 1 rfl rfl (iv_in bp1 (by decide) (by decide)) dX11_chooseLeavers_15 ?_
  refine lv_topi (fun z107 ez107 => ?_)
  have bz107 : 0 ≤ z107.toInt ∧ z107.toInt ≤ 1 := iv_at rf_a0_memory_present bp1 (by decide) (by decide) ez107
  refine lv_if_eq (tgt := 23) hx hb dX11_chooseLeavers_16 (by decide) (fun c108 => ?_) (fun c108 => ?_)
  · have c108 := c_eq c108
    have bz107_c108 : 0 ≤ z107.toInt ∧ z107.toInt ≤ 0 := e_eq bz107 (iv_k 0 (k := 0) (by decide)) c108 (by decide) (by decide)
    refine lv_aload_n hx hb dX11_chooseLeavers_23 rfl (lv_at hl 0 rfl) ?_
    refine va_get (D := (dC, dI)) (ci := 11) (v := .ref a0_memory) (C := RX11) (T := TX11) (N := 13) hx hb hts hinX11 hown hK hP 0 rfl rfl 4 (by decide) (hts (.fieldLink RX11 40 "SlipstreamCache" "memory" "LSlipstreamCache$Memory;") (List.mem_of_getElem? (i := 2) rfl)) (fun _ h9 => h9) rfl dX11_chooseLeavers_24 ?_
    refine va_get (D := (dC, dI)) (ci := 6) (v := .int v_a0_memory_filled) (C := RX6) (T := TX6) (N := 5) hx hb hts hinX6 hown hK hP 3 rfl rfl 4 (by decide) (hts (.fieldLink RX11 298 "SlipstreamCache$Memory" "filled" "I") (List.mem_of_getElem? (i := 4) rfl)) (fun _ h9 => h9) rfl dX11_chooseLeavers_27 ?_
    refine lv_aload_n hx hb dX11_chooseLeavers_30 rfl (lv_at hl 0 rfl) ?_
    refine va_get (D := (dC, dI)) (ci := 11) (v := .ref a0_keys) (C := RX11) (T := TX11) (N := 13) hx hb hts hinX11 hown hK hP 0 rfl rfl 0 (by decide) (hts (.fieldLink RX11 12 "SlipstreamCache" "keys" "LSlipstreamCache$Keys;") (List.mem_of_getElem? (i := 5) rfl)) (fun _ h9 => h9) rfl dX11_chooseLeavers_31 ?_
    refine va_get (D := (dC, dI)) (ci := 4) (v := .ref a0_keys_sizes) (C := RX4) (T := TX4) (N := 4) hx hb hts hinX4 hown hK hP 1 rfl rfl 0 (by decide) (hts (.fieldLink RX11 125 "SlipstreamCache$Keys" "sizes" "[I") (List.mem_of_getElem? (i := 6) rfl)) (fun _ h9 => h9) rfl dX11_chooseLeavers_34 ?_
    refine lv_iload_n hx hb dX11_chooseLeavers_37 rfl (lv_at hl 1 rfl) ?_
    refine va_iald hx hb hK hP 6 0 rfl rfl (iv_in bp1 (by decide) (by decide)) dX11_chooseLeavers_38 ?_
    refine lv_topi (fun z109 ez109 => ?_)
    have bz109 : 1 ≤ z109.toInt ∧ z109.toInt ≤ 4 := iv_at rf_a0_keys_sizes bp1 (by decide) (by decide) ez109
    refine lv_iadd hx hb dX11_chooseLeavers_39 ?_
    refine lv_topi (fun z110 ez110 => ?_)
    have qz110 := iv_add (lo := 1) (hi := 16) ez110 bv_a0_memory_filled bz109 (by decide) (by decide) (by decide) (by decide) 
    refine lv_bipush (v := 12) hx hb dX11_chooseLeavers_40 (by decide) ?_
    refine lv_isub hx hb dX11_chooseLeavers_42 ?_
    refine lv_topi (fun z111 ez111 => ?_)
    have qz111 := iv_sub (lo := (-11)) (hi := 4) ez111 qz110.2 (iv_k 12 (k := 12) (by decide)) (by decide) (by decide) (by decide) (by decide) 
    try rw [show (12 : Int32).toInt = 12 from rfl] at qz111
    refine lv_istore_n (lv' := [(2, .int z111), (0, .ref a0), (1, .int p1)]) hx hb dX11_chooseLeavers_43 rfl hl (by decide) rfl (fun ls hl => ?_)
    refine lv_iconst (v := 0) hx hb dX11_chooseLeavers_44 (by decide) ?_
    refine lv_istore_n (lv' := [(3, .int 0), (2, .int z111), (0, .ref a0), (1, .int p1)]) hx hb dX11_chooseLeavers_45 rfl hl (by decide) rfl (fun ls hl => ?_)
    have L46_111 : ∀ (n : Nat) (k46_3 : Int32) (f46_a0_choice_worths : Nat → Int32), (0 ≤ k46_3.toInt ∧ k46_3.toInt ≤ 64) → (32 + 1 - k46_3.toInt).toNat < n → ∀ (H : Heap) (locs : List Loc), va_P (dC, dI) vqCl [(a0, .inr (11, [.ref a0_keys, .ref a0_store, .ref a0_mirror, .ref a0_sketch, .ref a0_memory, .ref a0_flash, .ref a0_pledges, .ref a0_leases, .ref a0_answers, .ref a0_choice, .ref a0_incoming, .int v_a0_now, .int v_a0_down])), (a0_keys, .inr (4, [.ref a0_keys_sizes, .ref a0_keys_costs, .ref a0_keys_groups, .ref a0_keys_numbers])), (a0_sketch, .inr (9, [.ref a0_sketch_counters, .int v_a0_sketch_counted])), (a0_memory, .inr (6, [.ref a0_memory_copies, .ref a0_memory_present, .ref a0_memory_usedAt, .int v_a0_memory_uses, .int v_a0_memory_filled])), (a0_pledges, .inr (8, [.ref a0_pledges_waiting, .ref a0_pledges_values, .ref a0_pledges_due, .int v_a0_pledges_count])), (a0_choice, .inr (1, [.ref a0_choice_chosen, .ref a0_choice_worths, .ref a0_choice_order, .int g103, .int g104])), (a0_keys_sizes, .inl (cI, 32, .inl f_a0_keys_sizes)), (a0_keys_costs, .inl (cI, 32, .inl f_a0_keys_costs)), (a0_sketch_counters, .inl (cI, 64, .inl f_a0_sketch_counters)), (a0_memory_present, .inl (cZ, 32, .inl f_a0_memory_present)), (a0_memory_usedAt, .inl (cI, 32, .inl f_a0_memory_usedAt)), (a0_pledges_waiting, .inl (cZ, 32, .inl f_a0_pledges_waiting)), (a0_choice_chosen, .inl (cZ, 32, .inl g105)), (a0_choice_worths, .inl (cI, 32, .inl f46_a0_choice_worths)), (a0_choice_order, .inl (cI, 32, .inl f_a0_choice_order))] H → va_S A s.heap H locs → ∀ ls : Array Slot, lv_has ls 5 [(3, .int k46_3), (2, .int z111), (0, .ref a0)] → W p l e ({ frames := 4, cells := 0, slots := 0, locals := 66 } : Room) s m args below meth c H locs 0 0 Q (F0 m 46 ls []) := by
      intro n
      induction n with
      | zero =>
        intro k46_3 f46_a0_choice_worths bk46_3 hm
        exact absurd hm (Nat.not_lt_zero _)
      | succ n ih46 =>
        intro k46_3 f46_a0_choice_worths bk46_3 hm H locs hP hS ls hl
        refine lv_iload_n hx hb dX11_chooseLeavers_46 rfl (lv_at hl 0 rfl) ?_
        refine lv_bipush (v := 32) hx hb dX11_chooseLeavers_47 (by decide) ?_
        refine lv_icmp_ge (tgt := 76) hx hb dX11_chooseLeavers_49 (by decide) (fun c113 => ?_) (fun c113 => ?_)
        · have c113 := c_le c113
          have bk46_3_c113 : 32 ≤ k46_3.toInt ∧ k46_3.toInt ≤ 64 := l_le bk46_3 (iv_k 32 (k := 32) (by decide)) c113 (by decide) (by decide)
          refine lv_iconst (v := 0) hx hb dX11_chooseLeavers_76 (by decide) ?_
          refine lv_istore_n (lv' := [(3, .int 0), (2, .int z111), (0, .ref a0)]) hx hb dX11_chooseLeavers_77 rfl hl (by decide) rfl (fun ls hl => ?_)
          have L78_113 : ∀ (n : Nat) (k78_3 : Int32) (k78_2 : Int32) (v78_a0_choice_3 : Int32) (v78_a0_choice_4 : Int32) (f78_a0_choice_chosen : Nat → Int32) (f78_a0_choice_order : Nat → Int32), (0 ≤ k78_3.toInt ∧ k78_3.toInt ≤ 64) → ((-11) ≤ k78_2.toInt ∧ k78_2.toInt ≤ 4) → (0 ≤ v78_a0_choice_3.toInt ∧ v78_a0_choice_3.toInt ≤ 32) → ((-2147483648) ≤ v78_a0_choice_4.toInt ∧ v78_a0_choice_4.toInt ≤ 2147483647) → (rg 0 1 32 f78_a0_choice_chosen) → (rg 0 31 32 f78_a0_choice_order) → (LC v78_a0_choice_3.toInt k78_2.toInt v_a0_memory_filled.toInt f78_a0_choice_order f78_a0_choice_chosen f_a0_memory_present f_a0_pledges_waiting f_a0_keys_sizes p1) → (v78_a0_choice_3.toInt ≤ k78_3.toInt) → (32 + 1 - k78_3.toInt).toNat < n → ∀ (H : Heap) (locs : List Loc), va_P (dC, dI) vqCl [(a0, .inr (11, [.ref a0_keys, .ref a0_store, .ref a0_mirror, .ref a0_sketch, .ref a0_memory, .ref a0_flash, .ref a0_pledges, .ref a0_leases, .ref a0_answers, .ref a0_choice, .ref a0_incoming, .int v_a0_now, .int v_a0_down])), (a0_keys, .inr (4, [.ref a0_keys_sizes, .ref a0_keys_costs, .ref a0_keys_groups, .ref a0_keys_numbers])), (a0_sketch, .inr (9, [.ref a0_sketch_counters, .int v_a0_sketch_counted])), (a0_memory, .inr (6, [.ref a0_memory_copies, .ref a0_memory_present, .ref a0_memory_usedAt, .int v_a0_memory_uses, .int v_a0_memory_filled])), (a0_pledges, .inr (8, [.ref a0_pledges_waiting, .ref a0_pledges_values, .ref a0_pledges_due, .int v_a0_pledges_count])), (a0_choice, .inr (1, [.ref a0_choice_chosen, .ref a0_choice_worths, .ref a0_choice_order, .int v78_a0_choice_3, .int v78_a0_choice_4])), (a0_keys_sizes, .inl (cI, 32, .inl f_a0_keys_sizes)), (a0_keys_costs, .inl (cI, 32, .inl f_a0_keys_costs)), (a0_sketch_counters, .inl (cI, 64, .inl f_a0_sketch_counters)), (a0_memory_present, .inl (cZ, 32, .inl f_a0_memory_present)), (a0_memory_usedAt, .inl (cI, 32, .inl f_a0_memory_usedAt)), (a0_pledges_waiting, .inl (cZ, 32, .inl f_a0_pledges_waiting)), (a0_choice_chosen, .inl (cZ, 32, .inl f78_a0_choice_chosen)), (a0_choice_worths, .inl (cI, 32, .inl f46_a0_choice_worths)), (a0_choice_order, .inl (cI, 32, .inl f78_a0_choice_order))] H → va_S A s.heap H locs → ∀ ls : Array Slot, lv_has ls 5 [(3, .int k78_3), (2, .int k78_2), (0, .ref a0)] → W p l e ({ frames := 4, cells := 0, slots := 0, locals := 66 } : Room) s m args below meth c H locs 0 0 Q (F0 m 78 ls []) := by
            intro n
            induction n with
            | zero =>
              intro k78_3 k78_2 v78_a0_choice_3 v78_a0_choice_4 f78_a0_choice_chosen f78_a0_choice_order bk78_3 bk78_2 bv78_a0_choice_3 bv78_a0_choice_4 rf78_a0_choice_chosen rf78_a0_choice_order hf78_0 hf78_1 hm
              exact absurd hm (Nat.not_lt_zero _)
            | succ n ih78 =>
              intro k78_3 k78_2 v78_a0_choice_3 v78_a0_choice_4 f78_a0_choice_chosen f78_a0_choice_order bk78_3 bk78_2 bv78_a0_choice_3 bv78_a0_choice_4 rf78_a0_choice_chosen rf78_a0_choice_order hf78_0 hf78_1 hm H locs hP hS ls hl
              refine lv_iload_n hx hb dX11_chooseLeavers_78 rfl (lv_at hl 0 rfl) ?_
              refine lv_bipush (v := 32) hx hb dX11_chooseLeavers_79 (by decide) ?_
              refine lv_icmp_ge (tgt := 130) hx hb dX11_chooseLeavers_81 (by decide) (fun c115 => ?_) (fun c115 => ?_)
              · have c115 := c_le c115
                have bk78_3_c115 : 32 ≤ k78_3.toInt ∧ k78_3.toInt ≤ 64 := l_le bk78_3 (iv_k 32 (k := 32) (by decide)) c115 (by decide) (by decide)
                refine lv_iload_n hx hb dX11_chooseLeavers_130 rfl (lv_at hl 1 rfl) ?_
                refine lv_if_gt (tgt := 138) hx hb dX11_chooseLeavers_131 (by decide) (fun c116 => ?_) (fun c116 => ?_)
                · have c116 := c_lt c116
                  have bk78_2_c116 : 1 ≤ k78_2.toInt ∧ k78_2.toInt ≤ 4 := l_lt bk78_2 (iv_k 0 (k := 0) (by decide)) c116 (by decide) (by decide)
                  refine lv_iconst (v := 0) hx hb dX11_chooseLeavers_138 (by decide) ?_
                  subst hQ
                  exact W.zret (v := (0 : Int32)) hx hb hr (nar_b (iv_k 0 (k := 0) (by decide)) (by decide) (by decide)) (fun t ht hW => ⟨⟨(0 : Int32), (v78_a0_choice_3, v78_a0_choice_4, f78_a0_choice_chosen, f46_a0_choice_worths, f78_a0_choice_order), rfl, ⟨iv_m (iv_k 0 (k := 0) (by decide)) (by decide) (by decide), iv_m bv78_a0_choice_3 (by decide) (by decide), rg.mono rf78_a0_choice_chosen (by decide) (by decide), rg.mono rf78_a0_choice_order (by decide) (by decide), (by have k0 : (0 : Int32).toInt = 0 := (by decide); show (0 : Int32).toInt = 1 → CH 0 v78_a0_choice_3.toInt v_a0_memory_filled.toInt f78_a0_choice_order f_a0_memory_present f_a0_pledges_waiting f_a0_keys_sizes p1; intro h; exact absurd h (by decide)), trivial⟩, pAt ht hP⟩, hS.F ht⟩) hS.2.2 dX11_chooseLeavers_139
                · have c116 := c_nlt c116
                  have bk78_2_c116 : (-11) ≤ k78_2.toInt ∧ k78_2.toInt ≤ 0 := u_le bk78_2 (iv_k 0 (k := 0) (by decide)) c116 (by decide) (by decide)
                  refine lv_iconst (v := 1) hx hb dX11_chooseLeavers_134 (by decide) ?_
                  refine lv_goto (tgt := 139) hx hb dX11_chooseLeavers_135 (by decide) ?_
                  subst hQ
                  exact W.zret (v := (1 : Int32)) hx hb hr (nar_b (iv_k 1 (k := 1) (by decide)) (by decide) (by decide)) (fun t ht hW => ⟨⟨(1 : Int32), (v78_a0_choice_3, v78_a0_choice_4, f78_a0_choice_chosen, f46_a0_choice_worths, f78_a0_choice_order), rfl, ⟨iv_m (iv_k 1 (k := 1) (by decide)) (by decide) (by decide), iv_m bv78_a0_choice_3 (by decide) (by decide), rg.mono rf78_a0_choice_chosen (by decide) (by decide), rg.mono rf78_a0_choice_order (by decide) (by decide), (by have k0 : (1 : Int32).toInt = 1 := (by decide); show (1 : Int32).toInt = 1 → CH 0 v78_a0_choice_3.toInt v_a0_memory_filled.toInt f78_a0_choice_order f_a0_memory_present f_a0_pledges_waiting f_a0_keys_sizes p1; intro _; exact LC.done hf78_0 (by have k9 : (0 : Int32).toInt = 0 := (by decide); omega)), trivial⟩, pAt ht hP⟩, hS.F ht⟩) hS.2.2 dX11_chooseLeavers_139
              · have c115 := c_nle c115
                have bk78_3_c115 : 0 ≤ k78_3.toInt ∧ k78_3.toInt ≤ 31 := u_lt bk78_3 (iv_k 32 (k := 32) (by decide)) c115 (by decide) (by decide)
                refine lv_iload_n hx hb dX11_chooseLeavers_84 rfl (lv_at hl 1 rfl) ?_
                refine lv_if_le (tgt := 130) hx hb dX11_chooseLeavers_85 (by decide) (fun c117 => ?_) (fun c117 => ?_)
                · have c117 := c_le c117
                  have bk78_2_c117 : (-11) ≤ k78_2.toInt ∧ k78_2.toInt ≤ 0 := u_le bk78_2 (iv_k 0 (k := 0) (by decide)) c117 (by decide) (by decide)
                  refine lv_iload_n hx hb dX11_chooseLeavers_130 rfl (lv_at hl 1 rfl) ?_
                  refine lv_if_gt (tgt := 138) hx hb dX11_chooseLeavers_131 (by decide) (fun c => (z_lt (iv_k 0 (k := 0) (by decide)) bk78_2_c117 (c_lt c) (by decide)).elim) (fun c118 => ?_)
                  have c118 := c_nlt c118
                  refine lv_iconst (v := 1) hx hb dX11_chooseLeavers_134 (by decide) ?_
                  refine lv_goto (tgt := 139) hx hb dX11_chooseLeavers_135 (by decide) ?_
                  subst hQ
                  exact W.zret (v := (1 : Int32)) hx hb hr (nar_b (iv_k 1 (k := 1) (by decide)) (by decide) (by decide)) (fun t ht hW => ⟨⟨(1 : Int32), (v78_a0_choice_3, v78_a0_choice_4, f78_a0_choice_chosen, f46_a0_choice_worths, f78_a0_choice_order), rfl, ⟨iv_m (iv_k 1 (k := 1) (by decide)) (by decide) (by decide), iv_m bv78_a0_choice_3 (by decide) (by decide), rg.mono rf78_a0_choice_chosen (by decide) (by decide), rg.mono rf78_a0_choice_order (by decide) (by decide), (by have k0 : (1 : Int32).toInt = 1 := (by decide); show (1 : Int32).toInt = 1 → CH 0 v78_a0_choice_3.toInt v_a0_memory_filled.toInt f78_a0_choice_order f_a0_memory_present f_a0_pledges_waiting f_a0_keys_sizes p1; intro _; exact LC.done hf78_0 (by have k9 : (0 : Int32).toInt = 0 := (by decide); omega)), trivial⟩, pAt ht hP⟩, hS.F ht⟩) hS.2.2 dX11_chooseLeavers_139
                · have c117 := c_nle c117
                  have bk78_2_c117 : 1 ≤ k78_2.toInt ∧ k78_2.toInt ≤ 4 := l_lt bk78_2 (iv_k 0 (k := 0) (by decide)) c117 (by decide) (by decide)
                  refine lv_aload_n hx hb dX11_chooseLeavers_88 rfl (lv_at hl 2 rfl) ?_
                  have hM := kX11_nextLeaver_2 l dC dI cI cZ cC cJ cD qf a0 a0_keys a0_store a0_mirror a0_sketch a0_memory a0_flash a0_pledges a0_leases a0_answers a0_choice a0_incoming a0_memory_copies a0_memory_present a0_memory_usedAt a0_pledges_waiting a0_pledges_values a0_pledges_due a0_choice_chosen a0_choice_worths a0_choice_order H.size f_a0_memory_present f_a0_memory_usedAt f_a0_pledges_waiting f78_a0_choice_chosen f46_a0_choice_worths v_a0_now v_a0_down v_a0_memory_uses v_a0_memory_filled v_a0_pledges_count v78_a0_choice_3 v78_a0_choice_4 (rg.mono rf_a0_memory_present (by decide) (by decide)) (rg.mono rf_a0_pledges_waiting (by decide) (by decide)) (rg.mono rf78_a0_choice_chosen (by decide) (by decide)) (iv_m bv_a0_now (by decide) (by decide)) (iv_m bv_a0_down (by decide) (by decide)) (iv_m bv_a0_memory_filled (by decide) (by decide)) (iv_m bv_a0_pledges_count (by decide) (by decide)) (iv_m bv78_a0_choice_3 (by decide) (by decide))
                  refine mVi (As := []) (rest := []) (wc := [(a0, .inr (11, [.ref a0_keys, .ref a0_store, .ref a0_mirror, .ref a0_sketch, .ref a0_memory, .ref a0_flash, .ref a0_pledges, .ref a0_leases, .ref a0_answers, .ref a0_choice, .ref a0_incoming, .int v_a0_now, .int v_a0_down])), (a0_memory, .inr (6, [.ref a0_memory_copies, .ref a0_memory_present, .ref a0_memory_usedAt, .int v_a0_memory_uses, .int v_a0_memory_filled])), (a0_pledges, .inr (8, [.ref a0_pledges_waiting, .ref a0_pledges_values, .ref a0_pledges_due, .int v_a0_pledges_count])), (a0_choice, .inr (1, [.ref a0_choice_chosen, .ref a0_choice_worths, .ref a0_choice_order, .int v78_a0_choice_3, .int v78_a0_choice_4])), (a0_memory_present, .inl (cZ, 32, .inl f_a0_memory_present)), (a0_memory_usedAt, .inl (cI, 32, .inl f_a0_memory_usedAt)), (a0_pledges_waiting, .inl (cZ, 32, .inl f_a0_pledges_waiting)), (a0_choice_chosen, .inl (cZ, 32, .inl f78_a0_choice_chosen)), (a0_choice_worths, .inl (cI, 32, .inl f46_a0_choice_worths))]) ⟨hx, hb, hml, hown, hts⟩ hM (cwV 0 hts gX11_chooseLeavers_X11_nextLeaver rfl rfl rfl (by decide +kernel) ⟨(Nat.le_of_ble_eq_true rfl), (Nat.le_of_ble_eq_true rfl)⟩) hE hK hP hD rfl hS hA [0, 3, 4, 5, 9, 10, 11, 12, 13] rfl (by decide +kernel) (qr := 0) (cr := 11) rfl rfl rfl rfl hl rfl (Nat.le_of_ble_eq_true rfl) dX11_chooseLeavers_89 ⟨(Nat.le_of_ble_eq_true rfl), (Nat.le_of_ble_eq_true rfl)⟩ (fun _ => rfl) (fun z119 uu120 H locs hw hP hS => ?_)
                  have bz119 : (-1) ≤ z119.toInt ∧ z119.toInt ≤ 31 := hw.1
                  have C121 : ((-1) ≤ z119.toInt ∧ z119.toInt ≤ (-1)) ∨ (1 ≤ (f_a0_memory_present (z119).toNatClampNeg).toInt ∧ (f_a0_memory_present (z119).toNatClampNeg).toInt ≤ 1) := hw.2.1
                  have C122 : ((-1) ≤ z119.toInt ∧ z119.toInt ≤ (-1)) ∨ (0 ≤ (f_a0_pledges_waiting (z119).toNatClampNeg).toInt ∧ (f_a0_pledges_waiting (z119).toNatClampNeg).toInt ≤ 0) := hw.2.2.1
                  have C123 : ((-1) ≤ z119.toInt ∧ z119.toInt ≤ (-1)) ∨ (0 ≤ (f78_a0_choice_chosen (z119).toNatClampNeg).toInt ∧ (f78_a0_choice_chosen (z119).toNatClampNeg).toInt ≤ 0) := hw.2.2.2.1
                  have hP : va_P (dC, dI) vqCl [(a0, .inr (11, [.ref a0_keys, .ref a0_store, .ref a0_mirror, .ref a0_sketch, .ref a0_memory, .ref a0_flash, .ref a0_pledges, .ref a0_leases, .ref a0_answers, .ref a0_choice, .ref a0_incoming, .int v_a0_now, .int v_a0_down])), (a0_keys, .inr (4, [.ref a0_keys_sizes, .ref a0_keys_costs, .ref a0_keys_groups, .ref a0_keys_numbers])), (a0_sketch, .inr (9, [.ref a0_sketch_counters, .int v_a0_sketch_counted])), (a0_memory, .inr (6, [.ref a0_memory_copies, .ref a0_memory_present, .ref a0_memory_usedAt, .int v_a0_memory_uses, .int v_a0_memory_filled])), (a0_pledges, .inr (8, [.ref a0_pledges_waiting, .ref a0_pledges_values, .ref a0_pledges_due, .int v_a0_pledges_count])), (a0_choice, .inr (1, [.ref a0_choice_chosen, .ref a0_choice_worths, .ref a0_choice_order, .int v78_a0_choice_3, .int v78_a0_choice_4])), (a0_keys_sizes, .inl (cI, 32, .inl f_a0_keys_sizes)), (a0_keys_costs, .inl (cI, 32, .inl f_a0_keys_costs)), (a0_sketch_counters, .inl (cI, 64, .inl f_a0_sketch_counters)), (a0_memory_present, .inl (cZ, 32, .inl f_a0_memory_present)), (a0_memory_usedAt, .inl (cI, 32, .inl f_a0_memory_usedAt)), (a0_pledges_waiting, .inl (cZ, 32, .inl f_a0_pledges_waiting)), (a0_choice_chosen, .inl (cZ, 32, .inl f78_a0_choice_chosen)), (a0_choice_worths, .inl (cI, 32, .inl f46_a0_choice_worths)), (a0_choice_order, .inl (cI, 32, .inl f78_a0_choice_order))] H := hP
                  refine lv_istore (lv' := [(4, .int z119), (3, .int k78_3), (2, .int k78_2), (0, .ref a0)]) hx hb dX11_chooseLeavers_92 hl (by decide) rfl (fun ls hl => ?_)
                  refine lv_iload hx hb dX11_chooseLeavers_94 (lv_at hl 0 rfl) ?_
                  refine lv_iconst (v := (-1)) hx hb dX11_chooseLeavers_96 (by decide) ?_
                  refine lv_icmp_ne (tgt := 102) hx hb dX11_chooseLeavers_97 (by decide) (fun c124 => ?_) (fun c124 => ?_)
                  · have c124 := c_ne c124
                    have bz119_c124 : 0 ≤ z119.toInt ∧ z119.toInt ≤ 31 := n_ne bz119 (iv_k (-1) (k := (-1)) (by decide)) c124 (by decide) (by decide)
                    have t125 : (1 ≤ (f_a0_memory_present (z119).toNatClampNeg).toInt ∧ (f_a0_memory_present (z119).toNatClampNeg).toInt ≤ 1) := (Or.resolve_left C121 (cl_no bz119_c124 (by decide)))
                    have t126 : (0 ≤ (f_a0_pledges_waiting (z119).toNatClampNeg).toInt ∧ (f_a0_pledges_waiting (z119).toNatClampNeg).toInt ≤ 0) := (Or.resolve_left C122 (cl_no bz119_c124 (by decide)))
                    have t127 : (0 ≤ (f78_a0_choice_chosen (z119).toNatClampNeg).toInt ∧ (f78_a0_choice_chosen (z119).toNatClampNeg).toInt ≤ 0) := (Or.resolve_left C123 (cl_no bz119_c124 (by decide)))
                    refine lv_aload_n hx hb dX11_chooseLeavers_102 rfl (lv_at hl 3 rfl) ?_
                    refine va_get (D := (dC, dI)) (ci := 11) (v := .ref a0_choice) (C := RX11) (T := TX11) (N := 13) hx hb hts hinX11 hown hK hP 0 rfl rfl 9 (by decide) (hts (.fieldLink RX11 75 "SlipstreamCache" "choice" "LSlipstreamCache$Choice;") (List.mem_of_getElem? (i := 1) rfl)) (fun _ h9 => h9) rfl dX11_chooseLeavers_103 ?_
                    refine lv_iload hx hb dX11_chooseLeavers_106 (lv_at hl 0 rfl) ?_
                    have hM := kX1_add_2 l dC dI cI cZ cC cJ cD qf a0_choice a0_choice_chosen a0_choice_worths a0_choice_order H.size f78_a0_choice_chosen f46_a0_choice_worths f78_a0_choice_order v78_a0_choice_3 v78_a0_choice_4 z119 (rg.mono rf78_a0_choice_chosen (by decide) (by decide)) (rg.mono rf78_a0_choice_order (by decide) (by decide)) (by omega) (iv_m bz119_c124 (by decide) (by decide))
                    refine mVv (As := [.int z119]) (rest := []) (wc := [(a0_choice, .inr (1, [.ref a0_choice_chosen, .ref a0_choice_worths, .ref a0_choice_order, .int v78_a0_choice_3, .int v78_a0_choice_4])), (a0_choice_chosen, .inl (cZ, 32, .inl f78_a0_choice_chosen)), (a0_choice_worths, .inl (cI, 32, .inl f46_a0_choice_worths)), (a0_choice_order, .inl (cI, 32, .inl f78_a0_choice_order))]) ⟨hx, hb, hml, hown, hts⟩ hM (cwV 1 hts gX11_chooseLeavers_X1_add rfl rfl rfl (by decide +kernel) ⟨(Nat.le_of_ble_eq_true rfl), (Nat.le_of_ble_eq_true rfl)⟩) hE hK hP hD rfl hS hA [5, 12, 13, 14] rfl (by decide +kernel) (qr := 5) (cr := 1) rfl rfl rfl rfl hl rfl (Nat.le_of_ble_eq_true rfl) dX11_chooseLeavers_108 ⟨(Nat.le_of_ble_eq_true rfl), (Nat.le_of_ble_eq_true rfl)⟩ (fun _ => rfl) (fun uu129 H locs hw hP hS => ?_)
                    obtain ⟨g130, g131, g132, g133⟩ := uu129
                    have bg130 : 1 ≤ g130.toInt ∧ g130.toInt ≤ 32 := hw.1
                    have t134 : 1 ≤ (g132 (z119).toNatClampNeg).toInt ∧ (g132 (z119).toNatClampNeg).toInt ≤ 1 := hw.2.1
                    have rg132 : rg 0 1 32 g132 := hw.2.2.1
                    have rg133 : rg 0 31 32 g133 := hw.2.2.2.1
                    have F135 : g130.toInt = v78_a0_choice_3.toInt + 1 := hw.2.2.2.2.1
                    have F136 : g133 = upd f78_a0_choice_order (v78_a0_choice_3).toNatClampNeg z119 := hw.2.2.2.2.2.1
                    have F137 : g132 = upd f78_a0_choice_chosen (z119).toNatClampNeg 1 := hw.2.2.2.2.2.2.1
                    have hP : va_P (dC, dI) vqCl [(a0, .inr (11, [.ref a0_keys, .ref a0_store, .ref a0_mirror, .ref a0_sketch, .ref a0_memory, .ref a0_flash, .ref a0_pledges, .ref a0_leases, .ref a0_answers, .ref a0_choice, .ref a0_incoming, .int v_a0_now, .int v_a0_down])), (a0_keys, .inr (4, [.ref a0_keys_sizes, .ref a0_keys_costs, .ref a0_keys_groups, .ref a0_keys_numbers])), (a0_sketch, .inr (9, [.ref a0_sketch_counters, .int v_a0_sketch_counted])), (a0_memory, .inr (6, [.ref a0_memory_copies, .ref a0_memory_present, .ref a0_memory_usedAt, .int v_a0_memory_uses, .int v_a0_memory_filled])), (a0_pledges, .inr (8, [.ref a0_pledges_waiting, .ref a0_pledges_values, .ref a0_pledges_due, .int v_a0_pledges_count])), (a0_choice, .inr (1, [.ref a0_choice_chosen, .ref a0_choice_worths, .ref a0_choice_order, .int g130, .int g131])), (a0_keys_sizes, .inl (cI, 32, .inl f_a0_keys_sizes)), (a0_keys_costs, .inl (cI, 32, .inl f_a0_keys_costs)), (a0_sketch_counters, .inl (cI, 64, .inl f_a0_sketch_counters)), (a0_memory_present, .inl (cZ, 32, .inl f_a0_memory_present)), (a0_memory_usedAt, .inl (cI, 32, .inl f_a0_memory_usedAt)), (a0_pledges_waiting, .inl (cZ, 32, .inl f_a0_pledges_waiting)), (a0_choice_chosen, .inl (cZ, 32, .inl g132)), (a0_choice_worths, .inl (cI, 32, .inl f46_a0_choice_worths)), (a0_choice_order, .inl (cI, 32, .inl g133))] H := hP
                    refine lv_iload_n hx hb dX11_chooseLeavers_111 rfl (lv_at hl 2 rfl) ?_
                    refine lv_aload_n hx hb dX11_chooseLeavers_112 rfl (lv_at hl 3 rfl) ?_
                    refine va_get (D := (dC, dI)) (ci := 11) (v := .ref a0_keys) (C := RX11) (T := TX11) (N := 13) hx hb hts hinX11 hown hK hP 0 rfl rfl 0 (by decide) (hts (.fieldLink RX11 12 "SlipstreamCache" "keys" "LSlipstreamCache$Keys;") (List.mem_of_getElem? (i := 5) rfl)) (fun _ h9 => h9) rfl dX11_chooseLeavers_113 ?_
                    refine va_get (D := (dC, dI)) (ci := 4) (v := .ref a0_keys_sizes) (C := RX4) (T := TX4) (N := 4) hx hb hts hinX4 hown hK hP 1 rfl rfl 0 (by decide) (hts (.fieldLink RX11 125 "SlipstreamCache$Keys" "sizes" "[I") (List.mem_of_getElem? (i := 6) rfl)) (fun _ h9 => h9) rfl dX11_chooseLeavers_116 ?_
                    refine lv_iload hx hb dX11_chooseLeavers_119 (lv_at hl 0 rfl) ?_
                    refine va_iald hx hb hK hP 6 0 rfl rfl (iv_in bz119_c124 (by decide) (by decide)) dX11_chooseLeavers_121 ?_
                    refine lv_topi (fun z138 ez138 => ?_)
                    have bz138 : 1 ≤ z138.toInt ∧ z138.toInt ≤ 4 := iv_at rf_a0_keys_sizes bz119_c124 (by decide) (by decide) ez138
                    refine lv_isub hx hb dX11_chooseLeavers_122 ?_
                    refine lv_topi (fun z139 ez139 => ?_)
                    have qz139 := iv_sub (lo := (-3)) (hi := 3) ez139 bk78_2_c117 bz138 (by decide) (by decide) (by decide) (by decide) 
                    refine lv_istore_n (lv' := [(2, .int z139), (4, .int z119), (3, .int k78_3), (0, .ref a0)]) hx hb dX11_chooseLeavers_123 rfl hl (by decide) rfl (fun ls hl => ?_)
                    obtain ⟨z140, ez140⟩ : ∃ y : Int32, y = k78_3 + 1 := ⟨_, rfl⟩
                    refine lv_iinc (v := z140) (lv' := [(3, .int z140), (2, .int z139), (4, .int z119), (0, .ref a0)]) hx hb dX11_chooseLeavers_124 hl (k := 2) rfl (by rw [ez140]; rfl) (by decide) rfl (fun ls hl => ?_)
                    have qz140 := iv_add (lo := 1) (hi := 32) ez140 bk78_3_c115 (iv_k 1 (k := 1) (by decide)) (by decide) (by decide) (by decide) (by decide)
                    try rw [show (1 : Int32).toInt = 1 from rfl] at qz140
                    refine lv_goto (tgt := 78) hx hb dX11_chooseLeavers_127 (by decide) ?_
                    exact ih78 z140 z139 g130 g131 g132 g133 (iv_m qz140.2 (by decide) (by decide)) (iv_m qz139.2 (by decide) (by decide)) (iv_m bg130 (by decide) (by decide)) (iv_m (iv_f g131) (by decide) (by decide)) (rg.mono rg132 (by decide) (by decide)) (rg.mono rg133 (by decide) (by decide)) (by exact LC.add hf78_0 (by omega) (q_ix (x := v78_a0_choice_3) (n := 32) ⟨by omega, by omega⟩).2 (by omega) bz119_c124 (by omega) (by omega) (by omega) (by decide) F136 F137 (by have w9 := congrArg Int32.toInt ez138; omega)) (by omega) (by omega) _ _ hP hS ls (lv_sub hl [0, 1, 3] rfl)
                  · have c124 := c_eq c124
                    have bz119_c124 : (-1) ≤ z119.toInt ∧ z119.toInt ≤ (-1) := e_eq bz119 (iv_k (-1) (k := (-1)) (by decide)) c124 (by decide) (by decide)
                    refine lv_iconst (v := 0) hx hb dX11_chooseLeavers_100 (by decide) ?_
                    subst hQ
                    exact W.zret (v := (0 : Int32)) hx hb hr (nar_b (iv_k 0 (k := 0) (by decide)) (by decide) (by decide)) (fun t ht hW => ⟨⟨(0 : Int32), (v78_a0_choice_3, v78_a0_choice_4, f78_a0_choice_chosen, f46_a0_choice_worths, f78_a0_choice_order), rfl, ⟨iv_m (iv_k 0 (k := 0) (by decide)) (by decide) (by decide), iv_m bv78_a0_choice_3 (by decide) (by decide), rg.mono rf78_a0_choice_chosen (by decide) (by decide), rg.mono rf78_a0_choice_order (by decide) (by decide), (by have k0 : (0 : Int32).toInt = 0 := (by decide); show (0 : Int32).toInt = 1 → CH 0 v78_a0_choice_3.toInt v_a0_memory_filled.toInt f78_a0_choice_order f_a0_memory_present f_a0_pledges_waiting f_a0_keys_sizes p1; intro h; exact absurd h (by decide)), trivial⟩, pAt ht hP⟩, hS.F ht⟩) hS.2.2 dX11_chooseLeavers_101
          exact L78_113 _ (0 : Int32) z111 g103 g104 g105 f_a0_choice_order (iv_m (iv_k 0 (k := 0) (by decide)) (by decide) (by decide)) (iv_m qz111.2 (by decide) (by decide)) (iv_m bg103 (by decide) (by decide)) (iv_m bg104 (by decide) (by decide)) (rg.mono rg105 (by decide) (by decide)) (rg.mono rf_a0_choice_order (by decide) (by decide)) (by exact LC.zero F106 (by intro h; have w9 := congrArg Int32.toInt ez107; have w8 := congrArg Int32.toInt ez109; omega) (by intro h; have w9 := congrArg Int32.toInt ez107; have w8 := congrArg Int32.toInt ez109; omega)) (by have k0 : (0 : Int32).toInt = 0 := (by decide); omega) (Nat.lt_succ_self _) _ _ hP hS ls (lv_sub hl [0, 1, 2] rfl)
        · have c113 := c_nle c113
          have bk46_3_c113 : 0 ≤ k46_3.toInt ∧ k46_3.toInt ≤ 31 := u_lt bk46_3 (iv_k 32 (k := 32) (by decide)) c113 (by decide) (by decide)
          refine lv_iload_n hx hb dX11_chooseLeavers_52 rfl (lv_at hl 1 rfl) ?_
          refine lv_if_le (tgt := 76) hx hb dX11_chooseLeavers_53 (by decide) (fun c141 => ?_) (fun c141 => ?_)
          · have c141 := c_le c141
            have bz111_c141 : (-11) ≤ z111.toInt ∧ z111.toInt ≤ 0 := u_le qz111.2 (iv_k 0 (k := 0) (by decide)) c141 (by decide) (by decide)
            refine lv_iconst (v := 0) hx hb dX11_chooseLeavers_76 (by decide) ?_
            refine lv_istore_n (lv' := [(3, .int 0), (2, .int z111), (0, .ref a0)]) hx hb dX11_chooseLeavers_77 rfl hl (by decide) rfl (fun ls hl => ?_)
            have L78_141 : ∀ (n : Nat) , (LC g103.toInt z111.toInt v_a0_memory_filled.toInt f_a0_choice_order g105 f_a0_memory_present f_a0_pledges_waiting f_a0_keys_sizes p1) → (g103.toInt ≤ (0 : Int32).toInt) → (32 + 1 - (0 : Int32).toInt).toNat < n → ∀ (H : Heap) (locs : List Loc), va_P (dC, dI) vqCl [(a0, .inr (11, [.ref a0_keys, .ref a0_store, .ref a0_mirror, .ref a0_sketch, .ref a0_memory, .ref a0_flash, .ref a0_pledges, .ref a0_leases, .ref a0_answers, .ref a0_choice, .ref a0_incoming, .int v_a0_now, .int v_a0_down])), (a0_keys, .inr (4, [.ref a0_keys_sizes, .ref a0_keys_costs, .ref a0_keys_groups, .ref a0_keys_numbers])), (a0_sketch, .inr (9, [.ref a0_sketch_counters, .int v_a0_sketch_counted])), (a0_memory, .inr (6, [.ref a0_memory_copies, .ref a0_memory_present, .ref a0_memory_usedAt, .int v_a0_memory_uses, .int v_a0_memory_filled])), (a0_pledges, .inr (8, [.ref a0_pledges_waiting, .ref a0_pledges_values, .ref a0_pledges_due, .int v_a0_pledges_count])), (a0_choice, .inr (1, [.ref a0_choice_chosen, .ref a0_choice_worths, .ref a0_choice_order, .int g103, .int g104])), (a0_keys_sizes, .inl (cI, 32, .inl f_a0_keys_sizes)), (a0_keys_costs, .inl (cI, 32, .inl f_a0_keys_costs)), (a0_sketch_counters, .inl (cI, 64, .inl f_a0_sketch_counters)), (a0_memory_present, .inl (cZ, 32, .inl f_a0_memory_present)), (a0_memory_usedAt, .inl (cI, 32, .inl f_a0_memory_usedAt)), (a0_pledges_waiting, .inl (cZ, 32, .inl f_a0_pledges_waiting)), (a0_choice_chosen, .inl (cZ, 32, .inl g105)), (a0_choice_worths, .inl (cI, 32, .inl f46_a0_choice_worths)), (a0_choice_order, .inl (cI, 32, .inl f_a0_choice_order))] H → va_S A s.heap H locs → ∀ ls : Array Slot, lv_has ls 5 [(3, .int 0), (2, .int z111), (0, .ref a0)] → W p l e ({ frames := 4, cells := 0, slots := 0, locals := 66 } : Room) s m args below meth c H locs 0 0 Q (F0 m 78 ls []) := by
              intro n
              induction n with
              | zero =>
                intro hf78_0 hf78_1 hm
                exact absurd hm (Nat.not_lt_zero _)
              | succ n ih78 =>
                intro hf78_0 hf78_1 hm H locs hP hS ls hl
                refine lv_iload_n hx hb dX11_chooseLeavers_78 rfl (lv_at hl 0 rfl) ?_
                refine lv_bipush (v := 32) hx hb dX11_chooseLeavers_79 (by decide) ?_
                refine lv_icmp_ge (tgt := 130) hx hb dX11_chooseLeavers_81 (by decide) (fun c => (z_le (iv_k 32 (k := 32) (by decide)) (iv_k 0 (k := 0) (by decide)) (c_le c) (by decide)).elim) (fun c143 => ?_)
                have c143 := c_nle c143
                refine lv_iload_n hx hb dX11_chooseLeavers_84 rfl (lv_at hl 1 rfl) ?_
                refine lv_if_le (tgt := 130) hx hb dX11_chooseLeavers_85 (by decide) (fun c144 => ?_) (fun c => (z_lt (iv_k 0 (k := 0) (by decide)) bz111_c141 (c_nle c) (by decide)).elim)
                have c144 := c_le c144
                refine lv_iload_n hx hb dX11_chooseLeavers_130 rfl (lv_at hl 1 rfl) ?_
                refine lv_if_gt (tgt := 138) hx hb dX11_chooseLeavers_131 (by decide) (fun c => (z_lt (iv_k 0 (k := 0) (by decide)) bz111_c141 (c_lt c) (by decide)).elim) (fun c145 => ?_)
                have c145 := c_nlt c145
                refine lv_iconst (v := 1) hx hb dX11_chooseLeavers_134 (by decide) ?_
                refine lv_goto (tgt := 139) hx hb dX11_chooseLeavers_135 (by decide) ?_
                subst hQ
                exact W.zret (v := (1 : Int32)) hx hb hr (nar_b (iv_k 1 (k := 1) (by decide)) (by decide) (by decide)) (fun t ht hW => ⟨⟨(1 : Int32), (g103, g104, g105, f46_a0_choice_worths, f_a0_choice_order), rfl, ⟨iv_m (iv_k 1 (k := 1) (by decide)) (by decide) (by decide), iv_m bg103 (by decide) (by decide), rg.mono rg105 (by decide) (by decide), rg.mono rf_a0_choice_order (by decide) (by decide), (by have k0 : (1 : Int32).toInt = 1 := (by decide); show (1 : Int32).toInt = 1 → CH 0 g103.toInt v_a0_memory_filled.toInt f_a0_choice_order f_a0_memory_present f_a0_pledges_waiting f_a0_keys_sizes p1; intro _; exact LC.done hf78_0 (by have k9 : (0 : Int32).toInt = 0 := (by decide); omega)), trivial⟩, pAt ht hP⟩, hS.F ht⟩) hS.2.2 dX11_chooseLeavers_139
            exact L78_141 _  (by exact LC.zero F106 (by intro h; have w9 := congrArg Int32.toInt ez107; have w8 := congrArg Int32.toInt ez109; omega) (by intro h; have w9 := congrArg Int32.toInt ez107; have w8 := congrArg Int32.toInt ez109; omega)) (by have k0 : (0 : Int32).toInt = 0 := (by decide); omega) (Nat.lt_succ_self _) _ _ hP hS ls (lv_sub hl [0, 1, 2] rfl)
          · have c141 := c_nle c141
            have bz111_c141 : 1 ≤ z111.toInt ∧ z111.toInt ≤ 4 := l_lt qz111.2 (iv_k 0 (k := 0) (by decide)) c141 (by decide) (by decide)
            refine lv_aload_n hx hb dX11_chooseLeavers_56 rfl (lv_at hl 2 rfl) ?_
            refine va_get (D := (dC, dI)) (ci := 11) (v := .ref a0_choice) (C := RX11) (T := TX11) (N := 13) hx hb hts hinX11 hown hK hP 0 rfl rfl 9 (by decide) (hts (.fieldLink RX11 75 "SlipstreamCache" "choice" "LSlipstreamCache$Choice;") (List.mem_of_getElem? (i := 1) rfl)) (fun _ h9 => h9) rfl dX11_chooseLeavers_57 ?_
            refine va_get (D := (dC, dI)) (ci := 1) (v := .ref a0_choice_worths) (C := RX1) (T := TX1) (N := 5) hx hb hts hinX1 hown hK hP 5 rfl rfl 1 (by decide) (hts (.fieldLink RX11 393 "SlipstreamCache$Choice" "worths" "[I") (List.mem_of_getElem? (i := 7) rfl)) (fun _ h9 => h9) rfl dX11_chooseLeavers_60 ?_
            refine lv_iload_n hx hb dX11_chooseLeavers_63 rfl (lv_at hl 0 rfl) ?_
            refine lv_aload_n hx hb dX11_chooseLeavers_64 rfl (lv_at hl 2 rfl) ?_
            refine lv_iload_n hx hb dX11_chooseLeavers_65 rfl (lv_at hl 0 rfl) ?_
            have hM := kX11_worth_10 l dC dI cI cZ cC cJ cD qf a0 a0_keys a0_store a0_mirror a0_sketch a0_memory a0_flash a0_pledges a0_leases a0_answers a0_choice a0_incoming a0_keys_sizes a0_keys_costs a0_keys_groups a0_keys_numbers a0_sketch_counters H.size f_a0_keys_costs f_a0_sketch_counters v_a0_now v_a0_down v_a0_sketch_counted k46_3 (rg.mono rf_a0_keys_costs (by decide) (by decide)) (rg.mono rf_a0_sketch_counters (by decide) (by decide)) (iv_m bv_a0_now (by decide) (by decide)) (iv_m bv_a0_down (by decide) (by decide)) (iv_m bv_a0_sketch_counted (by decide) (by decide)) (iv_m bk46_3_c113 (by decide) (by decide))
            refine mVi (As := [.int k46_3]) (rest := [.int k46_3, .ref a0_choice_worths]) (wc := [(a0, .inr (11, [.ref a0_keys, .ref a0_store, .ref a0_mirror, .ref a0_sketch, .ref a0_memory, .ref a0_flash, .ref a0_pledges, .ref a0_leases, .ref a0_answers, .ref a0_choice, .ref a0_incoming, .int v_a0_now, .int v_a0_down])), (a0_keys, .inr (4, [.ref a0_keys_sizes, .ref a0_keys_costs, .ref a0_keys_groups, .ref a0_keys_numbers])), (a0_sketch, .inr (9, [.ref a0_sketch_counters, .int v_a0_sketch_counted])), (a0_keys_costs, .inl (cI, 32, .inl f_a0_keys_costs)), (a0_sketch_counters, .inl (cI, 64, .inl f_a0_sketch_counters))]) ⟨hx, hb, hml, hown, hts⟩ hM (cwV 1 hts gX11_chooseLeavers_X11_worth rfl rfl rfl (by decide +kernel) ⟨(Nat.le_of_ble_eq_true rfl), (Nat.le_of_ble_eq_true rfl)⟩) hE hK hP hD rfl hS hA [0, 1, 2, 7, 8] rfl (by decide +kernel) (qr := 0) (cr := 11) rfl rfl rfl rfl hl rfl (Nat.le_of_ble_eq_true rfl) dX11_chooseLeavers_66 ⟨(Nat.le_of_ble_eq_true rfl), (Nat.le_of_ble_eq_true rfl)⟩ (fun _ => rfl) (fun z146 uu147 H locs hw hP hS => ?_)
            have bz146 : 0 ≤ z146.toInt ∧ z146.toInt ≤ 135 := hw.1
            have hP : va_P (dC, dI) vqCl [(a0, .inr (11, [.ref a0_keys, .ref a0_store, .ref a0_mirror, .ref a0_sketch, .ref a0_memory, .ref a0_flash, .ref a0_pledges, .ref a0_leases, .ref a0_answers, .ref a0_choice, .ref a0_incoming, .int v_a0_now, .int v_a0_down])), (a0_keys, .inr (4, [.ref a0_keys_sizes, .ref a0_keys_costs, .ref a0_keys_groups, .ref a0_keys_numbers])), (a0_sketch, .inr (9, [.ref a0_sketch_counters, .int v_a0_sketch_counted])), (a0_memory, .inr (6, [.ref a0_memory_copies, .ref a0_memory_present, .ref a0_memory_usedAt, .int v_a0_memory_uses, .int v_a0_memory_filled])), (a0_pledges, .inr (8, [.ref a0_pledges_waiting, .ref a0_pledges_values, .ref a0_pledges_due, .int v_a0_pledges_count])), (a0_choice, .inr (1, [.ref a0_choice_chosen, .ref a0_choice_worths, .ref a0_choice_order, .int g103, .int g104])), (a0_keys_sizes, .inl (cI, 32, .inl f_a0_keys_sizes)), (a0_keys_costs, .inl (cI, 32, .inl f_a0_keys_costs)), (a0_sketch_counters, .inl (cI, 64, .inl f_a0_sketch_counters)), (a0_memory_present, .inl (cZ, 32, .inl f_a0_memory_present)), (a0_memory_usedAt, .inl (cI, 32, .inl f_a0_memory_usedAt)), (a0_pledges_waiting, .inl (cZ, 32, .inl f_a0_pledges_waiting)), (a0_choice_chosen, .inl (cZ, 32, .inl g105)), (a0_choice_worths, .inl (cI, 32, .inl f46_a0_choice_worths)), (a0_choice_order, .inl (cI, 32, .inl f_a0_choice_order))] H := hP
            refine va_iast hx hb hK hP (hD.to rfl) hS 13 0 rfl rfl (iv_in bk46_3_c113 (by decide) (by decide)) dX11_chooseLeavers_69 (fun H locs hP _ hS => ?_)
            obtain ⟨f148, ef148⟩ : ∃ y, y = upd f46_a0_choice_worths (k46_3).toNatClampNeg z146 := ⟨_, rfl⟩
            rw [← ef148] at hP
            have tf148 : 0 ≤ (f148 (k46_3).toNatClampNeg).toInt ∧ (f148 (k46_3).toNatClampNeg).toInt ≤ 135 := by rw [ef148, pk_us]; exact bz146
            have hP : va_P (dC, dI) vqCl [(a0, .inr (11, [.ref a0_keys, .ref a0_store, .ref a0_mirror, .ref a0_sketch, .ref a0_memory, .ref a0_flash, .ref a0_pledges, .ref a0_leases, .ref a0_answers, .ref a0_choice, .ref a0_incoming, .int v_a0_now, .int v_a0_down])), (a0_keys, .inr (4, [.ref a0_keys_sizes, .ref a0_keys_costs, .ref a0_keys_groups, .ref a0_keys_numbers])), (a0_sketch, .inr (9, [.ref a0_sketch_counters, .int v_a0_sketch_counted])), (a0_memory, .inr (6, [.ref a0_memory_copies, .ref a0_memory_present, .ref a0_memory_usedAt, .int v_a0_memory_uses, .int v_a0_memory_filled])), (a0_pledges, .inr (8, [.ref a0_pledges_waiting, .ref a0_pledges_values, .ref a0_pledges_due, .int v_a0_pledges_count])), (a0_choice, .inr (1, [.ref a0_choice_chosen, .ref a0_choice_worths, .ref a0_choice_order, .int g103, .int g104])), (a0_keys_sizes, .inl (cI, 32, .inl f_a0_keys_sizes)), (a0_keys_costs, .inl (cI, 32, .inl f_a0_keys_costs)), (a0_sketch_counters, .inl (cI, 64, .inl f_a0_sketch_counters)), (a0_memory_present, .inl (cZ, 32, .inl f_a0_memory_present)), (a0_memory_usedAt, .inl (cI, 32, .inl f_a0_memory_usedAt)), (a0_pledges_waiting, .inl (cZ, 32, .inl f_a0_pledges_waiting)), (a0_choice_chosen, .inl (cZ, 32, .inl g105)), (a0_choice_worths, .inl (cI, 32, .inl f148)), (a0_choice_order, .inl (cI, 32, .inl f_a0_choice_order))] H := hP
            obtain ⟨z149, ez149⟩ : ∃ y : Int32, y = k46_3 + 1 := ⟨_, rfl⟩
            refine lv_iinc (v := z149) (lv' := [(3, .int z149), (2, .int z111), (0, .ref a0)]) hx hb dX11_chooseLeavers_70 hl (k := 0) rfl (by rw [ez149]; rfl) (by decide) rfl (fun ls hl => ?_)
            have qz149 := iv_add (lo := 1) (hi := 32) ez149 bk46_3_c113 (iv_k 1 (k := 1) (by decide)) (by decide) (by decide) (by decide) (by decide)
            try rw [show (1 : Int32).toInt = 1 from rfl] at qz149
            refine lv_goto (tgt := 46) hx hb dX11_chooseLeavers_73 (by decide) ?_
            exact ih46 z149 f148 (iv_m qz149.2 (by decide) (by decide)) (by omega) _ _ hP hS ls (lv_sub hl [0, 1, 2] rfl)
    exact L46_111 _ (0 : Int32) f_a0_choice_worths (iv_m (iv_k 0 (k := 0) (by decide)) (by decide) (by decide)) (Nat.lt_succ_self _) _ _ hP hS ls (lv_sub hl [0, 1, 2] rfl)
  · have c108 := c_ne c108
    have bz107_c108 : 1 ≤ z107.toInt ∧ z107.toInt ≤ 1 := n_ne bz107 (iv_k 0 (k := 0) (by decide)) c108 (by decide) (by decide)
    refine lv_iconst (v := 0) hx hb dX11_chooseLeavers_19 (by decide) ?_
    refine lv_goto (tgt := 43) hx hb dX11_chooseLeavers_20 (by decide) ?_
    refine lv_istore_n (lv' := [(2, .int 0), (0, .ref a0), (1, .int p1)]) hx hb dX11_chooseLeavers_43 rfl hl (by decide) rfl (fun ls hl => ?_)
    refine lv_iconst (v := 0) hx hb dX11_chooseLeavers_44 (by decide) ?_
    refine lv_istore_n (lv' := [(3, .int 0), (2, .int 0), (0, .ref a0), (1, .int p1)]) hx hb dX11_chooseLeavers_45 rfl hl (by decide) rfl (fun ls hl => ?_)
    have L46_149 : ∀ (n : Nat) , (32 + 1 - (0 : Int32).toInt).toNat < n → ∀ (H : Heap) (locs : List Loc), va_P (dC, dI) vqCl [(a0, .inr (11, [.ref a0_keys, .ref a0_store, .ref a0_mirror, .ref a0_sketch, .ref a0_memory, .ref a0_flash, .ref a0_pledges, .ref a0_leases, .ref a0_answers, .ref a0_choice, .ref a0_incoming, .int v_a0_now, .int v_a0_down])), (a0_keys, .inr (4, [.ref a0_keys_sizes, .ref a0_keys_costs, .ref a0_keys_groups, .ref a0_keys_numbers])), (a0_sketch, .inr (9, [.ref a0_sketch_counters, .int v_a0_sketch_counted])), (a0_memory, .inr (6, [.ref a0_memory_copies, .ref a0_memory_present, .ref a0_memory_usedAt, .int v_a0_memory_uses, .int v_a0_memory_filled])), (a0_pledges, .inr (8, [.ref a0_pledges_waiting, .ref a0_pledges_values, .ref a0_pledges_due, .int v_a0_pledges_count])), (a0_choice, .inr (1, [.ref a0_choice_chosen, .ref a0_choice_worths, .ref a0_choice_order, .int g103, .int g104])), (a0_keys_sizes, .inl (cI, 32, .inl f_a0_keys_sizes)), (a0_keys_costs, .inl (cI, 32, .inl f_a0_keys_costs)), (a0_sketch_counters, .inl (cI, 64, .inl f_a0_sketch_counters)), (a0_memory_present, .inl (cZ, 32, .inl f_a0_memory_present)), (a0_memory_usedAt, .inl (cI, 32, .inl f_a0_memory_usedAt)), (a0_pledges_waiting, .inl (cZ, 32, .inl f_a0_pledges_waiting)), (a0_choice_chosen, .inl (cZ, 32, .inl g105)), (a0_choice_worths, .inl (cI, 32, .inl f_a0_choice_worths)), (a0_choice_order, .inl (cI, 32, .inl f_a0_choice_order))] H → va_S A s.heap H locs → ∀ ls : Array Slot, lv_has ls 5 [(3, .int 0), (2, .int 0), (0, .ref a0)] → W p l e ({ frames := 4, cells := 0, slots := 0, locals := 66 } : Room) s m args below meth c H locs 0 0 Q (F0 m 46 ls []) := by
      intro n
      induction n with
      | zero =>
        intro  hm
        exact absurd hm (Nat.not_lt_zero _)
      | succ n ih46 =>
        intro  hm H locs hP hS ls hl
        refine lv_iload_n hx hb dX11_chooseLeavers_46 rfl (lv_at hl 0 rfl) ?_
        refine lv_bipush (v := 32) hx hb dX11_chooseLeavers_47 (by decide) ?_
        refine lv_icmp_ge (tgt := 76) hx hb dX11_chooseLeavers_49 (by decide) (fun c => (z_le (iv_k 32 (k := 32) (by decide)) (iv_k 0 (k := 0) (by decide)) (c_le c) (by decide)).elim) (fun c151 => ?_)
        have c151 := c_nle c151
        refine lv_iload_n hx hb dX11_chooseLeavers_52 rfl (lv_at hl 1 rfl) ?_
        refine lv_if_le (tgt := 76) hx hb dX11_chooseLeavers_53 (by decide) (fun c152 => ?_) (fun c => (z_lt (iv_k 0 (k := 0) (by decide)) (iv_k 0 (k := 0) (by decide)) (c_nle c) (by decide)).elim)
        have c152 := c_le c152
        refine lv_iconst (v := 0) hx hb dX11_chooseLeavers_76 (by decide) ?_
        refine lv_istore_n (lv' := [(3, .int 0), (2, .int 0), (0, .ref a0)]) hx hb dX11_chooseLeavers_77 rfl hl (by decide) rfl (fun ls hl => ?_)
        have L78_152 : ∀ (n : Nat) , (LC g103.toInt (0 : Int32).toInt v_a0_memory_filled.toInt f_a0_choice_order g105 f_a0_memory_present f_a0_pledges_waiting f_a0_keys_sizes p1) → (g103.toInt ≤ (0 : Int32).toInt) → (32 + 1 - (0 : Int32).toInt).toNat < n → ∀ (H : Heap) (locs : List Loc), va_P (dC, dI) vqCl [(a0, .inr (11, [.ref a0_keys, .ref a0_store, .ref a0_mirror, .ref a0_sketch, .ref a0_memory, .ref a0_flash, .ref a0_pledges, .ref a0_leases, .ref a0_answers, .ref a0_choice, .ref a0_incoming, .int v_a0_now, .int v_a0_down])), (a0_keys, .inr (4, [.ref a0_keys_sizes, .ref a0_keys_costs, .ref a0_keys_groups, .ref a0_keys_numbers])), (a0_sketch, .inr (9, [.ref a0_sketch_counters, .int v_a0_sketch_counted])), (a0_memory, .inr (6, [.ref a0_memory_copies, .ref a0_memory_present, .ref a0_memory_usedAt, .int v_a0_memory_uses, .int v_a0_memory_filled])), (a0_pledges, .inr (8, [.ref a0_pledges_waiting, .ref a0_pledges_values, .ref a0_pledges_due, .int v_a0_pledges_count])), (a0_choice, .inr (1, [.ref a0_choice_chosen, .ref a0_choice_worths, .ref a0_choice_order, .int g103, .int g104])), (a0_keys_sizes, .inl (cI, 32, .inl f_a0_keys_sizes)), (a0_keys_costs, .inl (cI, 32, .inl f_a0_keys_costs)), (a0_sketch_counters, .inl (cI, 64, .inl f_a0_sketch_counters)), (a0_memory_present, .inl (cZ, 32, .inl f_a0_memory_present)), (a0_memory_usedAt, .inl (cI, 32, .inl f_a0_memory_usedAt)), (a0_pledges_waiting, .inl (cZ, 32, .inl f_a0_pledges_waiting)), (a0_choice_chosen, .inl (cZ, 32, .inl g105)), (a0_choice_worths, .inl (cI, 32, .inl f_a0_choice_worths)), (a0_choice_order, .inl (cI, 32, .inl f_a0_choice_order))] H → va_S A s.heap H locs → ∀ ls : Array Slot, lv_has ls 5 [(3, .int 0), (2, .int 0), (0, .ref a0)] → W p l e ({ frames := 4, cells := 0, slots := 0, locals := 66 } : Room) s m args below meth c H locs 0 0 Q (F0 m 78 ls []) := by
          intro n
          induction n with
          | zero =>
            intro hf78_0 hf78_1 hm
            exact absurd hm (Nat.not_lt_zero _)
          | succ n ih78 =>
            intro hf78_0 hf78_1 hm H locs hP hS ls hl
            refine lv_iload_n hx hb dX11_chooseLeavers_78 rfl (lv_at hl 0 rfl) ?_
            refine lv_bipush (v := 32) hx hb dX11_chooseLeavers_79 (by decide) ?_
            refine lv_icmp_ge (tgt := 130) hx hb dX11_chooseLeavers_81 (by decide) (fun c => (z_le (iv_k 32 (k := 32) (by decide)) (iv_k 0 (k := 0) (by decide)) (c_le c) (by decide)).elim) (fun c154 => ?_)
            have c154 := c_nle c154
            refine lv_iload_n hx hb dX11_chooseLeavers_84 rfl (lv_at hl 1 rfl) ?_
            refine lv_if_le (tgt := 130) hx hb dX11_chooseLeavers_85 (by decide) (fun c155 => ?_) (fun c => (z_lt (iv_k 0 (k := 0) (by decide)) (iv_k 0 (k := 0) (by decide)) (c_nle c) (by decide)).elim)
            have c155 := c_le c155
            refine lv_iload_n hx hb dX11_chooseLeavers_130 rfl (lv_at hl 1 rfl) ?_
            refine lv_if_gt (tgt := 138) hx hb dX11_chooseLeavers_131 (by decide) (fun c => (z_lt (iv_k 0 (k := 0) (by decide)) (iv_k 0 (k := 0) (by decide)) (c_lt c) (by decide)).elim) (fun c156 => ?_)
            have c156 := c_nlt c156
            refine lv_iconst (v := 1) hx hb dX11_chooseLeavers_134 (by decide) ?_
            refine lv_goto (tgt := 139) hx hb dX11_chooseLeavers_135 (by decide) ?_
            subst hQ
            exact W.zret (v := (1 : Int32)) hx hb hr (nar_b (iv_k 1 (k := 1) (by decide)) (by decide) (by decide)) (fun t ht hW => ⟨⟨(1 : Int32), (g103, g104, g105, f_a0_choice_worths, f_a0_choice_order), rfl, ⟨iv_m (iv_k 1 (k := 1) (by decide)) (by decide) (by decide), iv_m bg103 (by decide) (by decide), rg.mono rg105 (by decide) (by decide), rg.mono rf_a0_choice_order (by decide) (by decide), (by have k0 : (1 : Int32).toInt = 1 := (by decide); show (1 : Int32).toInt = 1 → CH 0 g103.toInt v_a0_memory_filled.toInt f_a0_choice_order f_a0_memory_present f_a0_pledges_waiting f_a0_keys_sizes p1; intro _; exact LC.done hf78_0 (by have k9 : (0 : Int32).toInt = 0 := (by decide); omega)), trivial⟩, pAt ht hP⟩, hS.F ht⟩) hS.2.2 dX11_chooseLeavers_139
        exact L78_152 _  (by have k0 : (0 : Int32).toInt = 0 := (by decide); exact LC.zero F106 (by intro h; have w9 := congrArg Int32.toInt ez107; omega) (by intro h; have w9 := congrArg Int32.toInt ez107; omega)) (by have k0 : (0 : Int32).toInt = 0 := (by decide); omega) (Nat.lt_succ_self _) _ _ hP hS ls (lv_sub hl [0, 1, 2] rfl)
    exact L46_149 _   (Nat.lt_succ_self _) _ _ hP hS ls (lv_sub hl [0, 1, 2] rfl)
