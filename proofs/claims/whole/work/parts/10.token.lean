set_option maxHeartbeats 4000000 in
set_option maxRecDepth 100000 in
theorem zt_jl {p : Program} {l : Launch} {e : Env} {s : State} {m : MethodId} {args : Array Value} {below : List Frame} {meth : Method} {c : Code} {A : Nat → Prop} {wc0 : va_W} {Y : zz_Y} {Q : State → Prop} {h nx0 cap len place : Nat} {token word value : Int32} {name : Int64} {tx : Nat → Nat} {first : Int32} {hb0 : Nat} {fB : Nat → Int32} (ok : zt_ok tx cap len fB) (C0 : zz_At p s m args meth c Y yn_T_scanJoined bc_T_scanJoined 2 none wc0 A)
    (kk : ∀ (H : Heap) (locs : List Loc) (ls : Array Slot), va_P Y.1 vwCl [(h, .inr (2, [.ref hb0, .int (nI len), .int (nI (zt_run tx len nx0)), .int token, .int (nI place), .long name, .int word, .int value])), (hb0, .inl (Y.2.1.1, cap, .inl fB))] H → va_D A [(h, .inr (2, [.ref hb0, .int (nI len), .int (nI (zt_run tx len nx0)), .int token, .int (nI place), .long name, .int word, .int value])), (hb0, .inl (Y.2.1.1, cap, .inl fB))] → va_S A s.heap H locs → lv_has ls 2 [(0, .ref h), (1, .int first)] → W p l e (headSpec (zz_ws yn_T_scanJoined bc_T_scanJoined 2 none) { frames := 2, cells := 0, slots := 0, locals := 49 }).room s m args below meth c H locs 0 0 Q (F0 m 38 ls [])) :
    ∀ (n k : Nat), k + n = len → zt_run tx len nx0 = zt_runF tx len n k → ∀ (H : Heap) (locs : List Loc) (ls : Array Slot), va_P Y.1 vwCl [(h, .inr (2, [.ref hb0, .int (nI len), .int (nI k), .int token, .int (nI place), .long name, .int word, .int value])), (hb0, .inl (Y.2.1.1, cap, .inl fB))] H → va_D A [(h, .inr (2, [.ref hb0, .int (nI len), .int (nI k), .int token, .int (nI place), .long name, .int word, .int value])), (hb0, .inl (Y.2.1.1, cap, .inl fB))] → va_S A s.heap H locs → lv_has ls 2 [(0, .ref h), (1, .int first)] → W p l e (headSpec (zz_ws yn_T_scanJoined bc_T_scanJoined 2 none) { frames := 2, cells := 0, slots := 0, locals := 49 }).room s m args below meth c H locs 0 0 Q (F0 m 0 ls []) := by
  obtain ⟨hx, hb, hr, hml, hlocks, hin, hown, hw, hAe, hA, hK, hG, -, -, -⟩ := id C0
  have hown : s.vm.findClass "TwoLevelParser$Text" = some m.cls := hown
  obtain ⟨q1, q2, q3, q4, q5, q6⟩ := id ok
  intro n
  induction n with
  | zero =>
    intro k hk hF H locs ls hP hD hS hl
    refine lv_aload_n hx hb dc_T_scanJoined_0 rfl (lv_at hl 0 rfl) ?_
    refine va_get (D := Y.1) (ci := 2) (v := .int (nI k)) (C := rn_T) (T := tf_T) (N := 8) hx hb hw wi_T hown hK hP 0 rfl rfl 2 (by decide) (hw _ kw_94) (fun _ h9 => h9) rfl dc_T_scanJoined_1 ?_
    refine lv_aload_n hx hb dc_T_scanJoined_4 rfl (lv_at hl 0 rfl) ?_
    refine va_get (D := Y.1) (ci := 2) (v := .int (nI len)) (C := rn_T) (T := tf_T) (N := 8) hx hb hw wi_T hown hK hP 0 rfl rfl 1 (by decide) (hw _ kw_93) (fun _ h9 => h9) rfl dc_T_scanJoined_5 ?_
    refine lv_icmp_ge (tgt := 38) hx hb dc_T_scanJoined_8 (by decide) (fun _ => ?_) (fun c9 => absurd (nI_le (by omega) (by omega)) c9)
    have e9 : zt_run tx len nx0 = k := by rw [hF]; rfl
    rw [← e9] at hP hD
    exact kk _ _ _ hP hD hS hl
  | succ n ih =>
    intro k hk hF H locs ls hP hD hS hl
    refine lv_aload_n hx hb dc_T_scanJoined_0 rfl (lv_at hl 0 rfl) ?_
    refine va_get (D := Y.1) (ci := 2) (v := .int (nI k)) (C := rn_T) (T := tf_T) (N := 8) hx hb hw wi_T hown hK hP 0 rfl rfl 2 (by decide) (hw _ kw_94) (fun _ h9 => h9) rfl dc_T_scanJoined_1 ?_
    refine lv_aload_n hx hb dc_T_scanJoined_4 rfl (lv_at hl 0 rfl) ?_
    refine va_get (D := Y.1) (ci := 2) (v := .int (nI len)) (C := rn_T) (T := tf_T) (N := 8) hx hb hw wi_T hown hK hP 0 rfl rfl 1 (by decide) (hw _ kw_93) (fun _ h9 => h9) rfl dc_T_scanJoined_5 ?_
    refine lv_icmp_ge (tgt := 38) hx hb dc_T_scanJoined_8 (by decide) (fun c9 => absurd c9 (nI_ge (by omega) (by omega))) (fun _ => ?_)
    refine lv_aload_n hx hb dc_T_scanJoined_11 rfl (lv_at hl 0 rfl) ?_
    refine lv_aload_n hx hb dc_T_scanJoined_12 rfl (lv_at hl 0 rfl) ?_
    refine va_get (D := Y.1) (ci := 2) (v := .int (nI k)) (C := rn_T) (T := tf_T) (N := 8) hx hb hw wi_T hown hK hP 0 rfl rfl 2 (by decide) (hw _ kw_94) (fun _ h9 => h9) rfl dc_T_scanJoined_13 ?_
    refine vp_callSi (W.runV (As := [.int (nI k)]) (rest := []) ⟨hx, hb, hml, hown, hw⟩ (ct_T_byteAt l Y (wc := [(h, .inr (2, [.ref hb0, .int (nI len), .int (nI k), .int token, .int (nI place), .long name, .int word, .int value])), (hb0, .inl (Y.2.1.1, cap, .inl fB))]) ⟨hb0, fB, rfl, ok⟩ k (by omega) _) (cwV 1 hw (zz_gV kw_243 kw_245 kw_1 kw_62 kw_246) rfl rfl rfl (by decide +kernel) ⟨Nat.le_of_ble_eq_true rfl, Nat.le_of_ble_eq_true rfl⟩) (zz_preV hK hG hA hP hD hS [0, 1] rfl (by decide) rfl rfl) rfl rfl hl.1 rfl (lv_room (Nat.le_of_ble_eq_true rfl)) dc_T_scanJoined_16 ⟨Nat.le_of_ble_eq_true rfl, Nat.le_of_ble_eq_true rfl⟩) (fun r hr9 => ?_)
    subst hr9
    refine vp_callSi (W.runS (As := [.int (zt_at tx len k)]) (rest := []) ⟨hx, hb, hml, hown, hw⟩ (ct_T_isJoined l Y (zt_at tx len k) _) (va_cwS 1 hw (zz_gS kw_250 kw_251 kw_62 kw_252) rfl rfl rfl (by decide +kernel) ⟨Nat.le_of_ble_eq_true rfl, Nat.le_of_ble_eq_true rfl⟩) (zz_preS hK hG hA hP hD hS [] rfl (by decide)) rfl rfl hl.1 rfl (lv_room (Nat.le_of_ble_eq_true rfl)) dc_T_scanJoined_19 ⟨Nat.le_of_ble_eq_true rfl, Nat.le_of_ble_eq_true rfl⟩) (fun r hr9 => ?_)
    subst hr9
    refine lv_if_eq (tgt := 38) hx hb dc_T_scanJoined_22 (by decide) (fun c_1 => ?_) (fun c_1 => ?_)
    · skip
      have c_1 := zz_bF c_1
      have e9 : zt_run tx len nx0 = k := by rw [hF, zt_runF, if_neg c_1]
      rw [← e9] at hP hD
      exact kk _ _ _ hP hD hS hl
    · skip
      have c_1 := zz_bT c_1
      refine lv_aload_n hx hb dc_T_scanJoined_25 rfl (lv_at hl 0 rfl) ?_
      refine lv_dup hx hb dc_T_scanJoined_26 rfl ?_
      refine va_get (D := Y.1) (ci := 2) (v := .int (nI k)) (C := rn_T) (T := tf_T) (N := 8) hx hb hw wi_T hown hK hP 0 rfl rfl 2 (by decide) (hw _ kw_94) (fun _ h9 => h9) rfl dc_T_scanJoined_27 ?_
      refine lv_iconst (v := 1) hx hb dc_T_scanJoined_30 (by decide) ?_
      refine lv_iadd hx hb dc_T_scanJoined_31 ?_
      rw [show (nI k) + 1 = nI (k + 1) from nI_1 k]
      refine va_put (D := Y.1) (ci := 2) (v := .int (nI (k + 1))) (ty := .int) (C := rn_T) (T := tf_T) (N := 8) hx hb hw wi_T ty_T ty_T_ok nm_T hown hK hP hD hS 0 rfl rfl 2 (by decide) (hw _ kw_94) (fun _ h9 => h9) rfl (by decide +kernel) rfl rfl (Nat.le_of_ble_eq_true rfl) dc_T_scanJoined_32 (fun H locs hP hD hS => ?_)
      have hP : va_P Y.1 vwCl [(h, .inr (2, [.ref hb0, .int (nI len), .int (nI (k + 1)), .int token, .int (nI place), .long name, .int word, .int value])), (hb0, .inl (Y.2.1.1, cap, .inl fB))] H := hP
      have hD : va_D A [(h, .inr (2, [.ref hb0, .int (nI len), .int (nI (k + 1)), .int token, .int (nI place), .long name, .int word, .int value])), (hb0, .inl (Y.2.1.1, cap, .inl fB))] := hD
      refine lv_goto (tgt := 0) hx hb dc_T_scanJoined_35 (by decide) ?_
      exact ih (k + 1) (by omega) (by rw [hF, zt_runF, if_pos c_1]) _ _ _ hP hD hS hl

set_option maxHeartbeats 4000000 in
set_option maxRecDepth 100000 in
theorem zt_bl {p : Program} {l : Launch} {e : Env} {s : State} {m : MethodId} {args : Array Value} {below : List Frame} {meth : Method} {c : Code} {A : Nat → Prop} {wc0 : va_W} {Y : zz_Y} {Q : State → Prop} {h nx0 cap len place : Nat} {token word value : Int32} {name : Int64} {tx : Nat → Nat} {hb0 : Nat} {fB : Nat → Int32} (ok : zt_ok tx cap len fB) (C0 : zz_At p s m args meth c Y yn_T_toNextToken bc_T_toNextToken 2 none wc0 A)
    (kk : ∀ (H : Heap) (locs : List Loc) (ls : Array Slot), va_P Y.1 vwCl [(h, .inr (2, [.ref hb0, .int (nI len), .int (nI (zt_skip tx len nx0)), .int token, .int (nI place), .long name, .int word, .int value])), (hb0, .inl (Y.2.1.1, cap, .inl fB))] H → va_D A [(h, .inr (2, [.ref hb0, .int (nI len), .int (nI (zt_skip tx len nx0)), .int token, .int (nI place), .long name, .int word, .int value])), (hb0, .inl (Y.2.1.1, cap, .inl fB))] → va_S A s.heap H locs → lv_has ls 2 [(0, .ref h)] → W p l e (headSpec (zz_ws yn_T_toNextToken bc_T_toNextToken 2 none) { frames := 3, cells := 0, slots := 0, locals := 70 }).room s m args below meth c H locs 0 0 Q (F0 m 38 ls [])) :
    ∀ (n k : Nat), k + n = len → zt_skip tx len nx0 = zt_skipF tx len n k → ∀ (H : Heap) (locs : List Loc) (ls : Array Slot), va_P Y.1 vwCl [(h, .inr (2, [.ref hb0, .int (nI len), .int (nI k), .int token, .int (nI place), .long name, .int word, .int value])), (hb0, .inl (Y.2.1.1, cap, .inl fB))] H → va_D A [(h, .inr (2, [.ref hb0, .int (nI len), .int (nI k), .int token, .int (nI place), .long name, .int word, .int value])), (hb0, .inl (Y.2.1.1, cap, .inl fB))] → va_S A s.heap H locs → lv_has ls 2 [(0, .ref h)] → W p l e (headSpec (zz_ws yn_T_toNextToken bc_T_toNextToken 2 none) { frames := 3, cells := 0, slots := 0, locals := 70 }).room s m args below meth c H locs 0 0 Q (F0 m 0 ls []) := by
  obtain ⟨hx, hb, hr, hml, hlocks, hin, hown, hw, hAe, hA, hK, hG, -, -, -⟩ := id C0
  have hown : s.vm.findClass "TwoLevelParser$Text" = some m.cls := hown
  obtain ⟨q1, q2, q3, q4, q5, q6⟩ := id ok
  intro n
  induction n with
  | zero =>
    intro k hk hF H locs ls hP hD hS hl
    refine lv_aload_n hx hb dc_T_toNextToken_0 rfl (lv_at hl 0 rfl) ?_
    refine va_get (D := Y.1) (ci := 2) (v := .int (nI k)) (C := rn_T) (T := tf_T) (N := 8) hx hb hw wi_T hown hK hP 0 rfl rfl 2 (by decide) (hw _ kw_94) (fun _ h9 => h9) rfl dc_T_toNextToken_1 ?_
    refine lv_aload_n hx hb dc_T_toNextToken_4 rfl (lv_at hl 0 rfl) ?_
    refine va_get (D := Y.1) (ci := 2) (v := .int (nI len)) (C := rn_T) (T := tf_T) (N := 8) hx hb hw wi_T hown hK hP 0 rfl rfl 1 (by decide) (hw _ kw_93) (fun _ h9 => h9) rfl dc_T_toNextToken_5 ?_
    refine lv_icmp_ge (tgt := 38) hx hb dc_T_toNextToken_8 (by decide) (fun _ => ?_) (fun c9 => absurd (nI_le (by omega) (by omega)) c9)
    have e9 : zt_skip tx len nx0 = k := by rw [hF]; rfl
    rw [← e9] at hP hD
    exact kk _ _ _ hP hD hS hl
  | succ n ih =>
    intro k hk hF H locs ls hP hD hS hl
    refine lv_aload_n hx hb dc_T_toNextToken_0 rfl (lv_at hl 0 rfl) ?_
    refine va_get (D := Y.1) (ci := 2) (v := .int (nI k)) (C := rn_T) (T := tf_T) (N := 8) hx hb hw wi_T hown hK hP 0 rfl rfl 2 (by decide) (hw _ kw_94) (fun _ h9 => h9) rfl dc_T_toNextToken_1 ?_
    refine lv_aload_n hx hb dc_T_toNextToken_4 rfl (lv_at hl 0 rfl) ?_
    refine va_get (D := Y.1) (ci := 2) (v := .int (nI len)) (C := rn_T) (T := tf_T) (N := 8) hx hb hw wi_T hown hK hP 0 rfl rfl 1 (by decide) (hw _ kw_93) (fun _ h9 => h9) rfl dc_T_toNextToken_5 ?_
    refine lv_icmp_ge (tgt := 38) hx hb dc_T_toNextToken_8 (by decide) (fun c9 => absurd c9 (nI_ge (by omega) (by omega))) (fun _ => ?_)
    refine lv_aload_n hx hb dc_T_toNextToken_11 rfl (lv_at hl 0 rfl) ?_
    refine lv_aload_n hx hb dc_T_toNextToken_12 rfl (lv_at hl 0 rfl) ?_
    refine va_get (D := Y.1) (ci := 2) (v := .int (nI k)) (C := rn_T) (T := tf_T) (N := 8) hx hb hw wi_T hown hK hP 0 rfl rfl 2 (by decide) (hw _ kw_94) (fun _ h9 => h9) rfl dc_T_toNextToken_13 ?_
    refine vp_callSi (W.runV (As := [.int (nI k)]) (rest := []) ⟨hx, hb, hml, hown, hw⟩ (ct_T_byteAt l Y (wc := [(h, .inr (2, [.ref hb0, .int (nI len), .int (nI k), .int token, .int (nI place), .long name, .int word, .int value])), (hb0, .inl (Y.2.1.1, cap, .inl fB))]) ⟨hb0, fB, rfl, ok⟩ k (by omega) _) (cwV 1 hw (zz_gV kw_243 kw_245 kw_1 kw_62 kw_246) rfl rfl rfl (by decide +kernel) ⟨Nat.le_of_ble_eq_true rfl, Nat.le_of_ble_eq_true rfl⟩) (zz_preV hK hG hA hP hD hS [0, 1] rfl (by decide) rfl rfl) rfl rfl hl.1 rfl (lv_room (Nat.le_of_ble_eq_true rfl)) dc_T_toNextToken_16 ⟨Nat.le_of_ble_eq_true rfl, Nat.le_of_ble_eq_true rfl⟩) (fun r hr9 => ?_)
    subst hr9
    refine vp_callSi (W.runS (As := [.int (zt_at tx len k)]) (rest := []) ⟨hx, hb, hml, hown, hw⟩ (ct_T_isBlank l Y (zt_at tx len k) _) (va_cwS 1 hw (zz_gS kw_247 kw_248 kw_62 kw_249) rfl rfl rfl (by decide +kernel) ⟨Nat.le_of_ble_eq_true rfl, Nat.le_of_ble_eq_true rfl⟩) (zz_preS hK hG hA hP hD hS [] rfl (by decide)) rfl rfl hl.1 rfl (lv_room (Nat.le_of_ble_eq_true rfl)) dc_T_toNextToken_19 ⟨Nat.le_of_ble_eq_true rfl, Nat.le_of_ble_eq_true rfl⟩) (fun r hr9 => ?_)
    subst hr9
    refine lv_if_eq (tgt := 38) hx hb dc_T_toNextToken_22 (by decide) (fun c_1 => ?_) (fun c_1 => ?_)
    · skip
      have c_1 := zz_bF c_1
      have e9 : zt_skip tx len nx0 = k := by rw [hF, zt_skipF, if_neg c_1]
      rw [← e9] at hP hD
      exact kk _ _ _ hP hD hS hl
    · skip
      have c_1 := zz_bT c_1
      refine lv_aload_n hx hb dc_T_toNextToken_25 rfl (lv_at hl 0 rfl) ?_
      refine lv_dup hx hb dc_T_toNextToken_26 rfl ?_
      refine va_get (D := Y.1) (ci := 2) (v := .int (nI k)) (C := rn_T) (T := tf_T) (N := 8) hx hb hw wi_T hown hK hP 0 rfl rfl 2 (by decide) (hw _ kw_94) (fun _ h9 => h9) rfl dc_T_toNextToken_27 ?_
      refine lv_iconst (v := 1) hx hb dc_T_toNextToken_30 (by decide) ?_
      refine lv_iadd hx hb dc_T_toNextToken_31 ?_
      rw [show (nI k) + 1 = nI (k + 1) from nI_1 k]
      refine va_put (D := Y.1) (ci := 2) (v := .int (nI (k + 1))) (ty := .int) (C := rn_T) (T := tf_T) (N := 8) hx hb hw wi_T ty_T ty_T_ok nm_T hown hK hP hD hS 0 rfl rfl 2 (by decide) (hw _ kw_94) (fun _ h9 => h9) rfl (by decide +kernel) rfl rfl (Nat.le_of_ble_eq_true rfl) dc_T_toNextToken_32 (fun H locs hP hD hS => ?_)
      have hP : va_P Y.1 vwCl [(h, .inr (2, [.ref hb0, .int (nI len), .int (nI (k + 1)), .int token, .int (nI place), .long name, .int word, .int value])), (hb0, .inl (Y.2.1.1, cap, .inl fB))] H := hP
      have hD : va_D A [(h, .inr (2, [.ref hb0, .int (nI len), .int (nI (k + 1)), .int token, .int (nI place), .long name, .int word, .int value])), (hb0, .inl (Y.2.1.1, cap, .inl fB))] := hD
      refine lv_goto (tgt := 0) hx hb dc_T_toNextToken_35 (by decide) ?_
      exact ih (k + 1) (by omega) (by rw [hF, zt_skipF, if_pos c_1]) _ _ _ hP hD hS hl

set_option maxHeartbeats 4000000 in
set_option maxRecDepth 100000 in
theorem ct_T_scanJoined (l : Launch) (Y : zz_Y) {h cap len place : Nat} {token word value : Int32} {name : Int64} {tx : Nat → Nat} {wc : va_W} (hok : zt_OK Y h tx cap len place token place name word value wc) (hpl : place < len) (hj : zt_joined (zt_at tx len place) = true) (first : Int32) : zz_V l Y yn_T_scanJoined bc_T_scanJoined 2 none { frames := 2, cells := 0, slots := 0, locals := 49 } [.ref h, .int first] wc (fun w1 => ∃ (t : Int32) (nx : Nat) (nm : Int64) (wd vl : Int32), (t, nx, nm, wd, vl) = zt_sj tx len place first name word value ∧ zt_OK Y h tx cap len nx t place nm wd vl w1) := by
  intro sz
  obtain ⟨hb0, fB, rfl, ok⟩ := hok
  refine zz_of (cc := bc_T_scanJoined) (maxL := 2) (ret := none) (by decide) (Nat.le_of_ble_eq_true rfl) ?_
  intro p e s m below meth c A ls hsz C0 hl
  subst hsz
  obtain ⟨hx, hb, hr, hml, hlocks, hin, hown, hw, hAe, hA, hK, hG, hP, hD, hS⟩ := id C0
  have hown : s.vm.findClass "TwoLevelParser$Text" = some m.cls := hown
  have hl : lv_has ls 2 [(0, .ref h), (1, .int first)] := hl
  obtain ⟨q1, q2, q3, q4, q5, q6⟩ := id ok
  have hrun1 : place < zt_run tx len place := by
    rw [zt_run, show len - place = (len - place - 1) + 1 by omega, zt_runF, if_pos hj]
    exact (zt_runF_le tx len _ _).1
  have hrun2 : zt_run tx len place ≤ len := by
    have := (zt_runF_le tx len (len - place) place).2
    rw [zt_run]; omega
  refine zt_jl (nx0 := place) ok C0 ?_ (len - place) place (by omega) rfl _ _ _ hP hD hS hl
  clear hP hD hS hl
  intro H locs ls hP hD hS hl
  refine lv_iload_n hx hb dc_T_scanJoined_38 rfl (lv_at hl 1 rfl) ?_
  refine vp_callSi (W.runS (As := [.int first]) (rest := []) ⟨hx, hb, hml, hown, hw⟩ (ct_T_isLetter l Y first _) (va_cwS 1 hw (zz_gS kw_253 kw_254 kw_62 kw_255) rfl rfl rfl (by decide +kernel) ⟨Nat.le_of_ble_eq_true rfl, Nat.le_of_ble_eq_true rfl⟩) (zz_preS hK hG hA hP hD hS [] rfl (by decide)) rfl rfl hl.1 rfl (lv_room (Nat.le_of_ble_eq_true rfl)) dc_T_scanJoined_39 ⟨Nat.le_of_ble_eq_true rfl, Nat.le_of_ble_eq_true rfl⟩) (fun r hr9 => ?_)
  subst hr9
  refine lv_if_eq (tgt := 64) hx hb dc_T_scanJoined_42 (by decide) (fun c_1 => ?_) (fun c_1 => ?_)
  · skip
    have c_1 := zz_bF c_1
    refine lv_aload_n hx hb dc_T_scanJoined_64 rfl (lv_at hl 0 rfl) ?_
    refine lv_aload_n hx hb dc_T_scanJoined_65 rfl (lv_at hl 0 rfl) ?_
    refine lv_iload_n hx hb dc_T_scanJoined_66 rfl (lv_at hl 1 rfl) ?_
    refine lv_bipush (v := 45) hx hb dc_T_scanJoined_67 (by decide) ?_
    refine lv_icmp_ne (tgt := 76) hx hb dc_T_scanJoined_69 (by decide) (fun c_2 => ?_) (fun c_2 => ?_)
    · skip
      refine lv_iconst (v := 0) hx hb dc_T_scanJoined_76 (by decide) ?_
      refine zz_goI (wc := [(h, .inr (2, [.ref hb0, .int (nI len), .int (nI (zt_run tx len place)), .int token, .int (nI place), .long name, .int word, .int value])), (hb0, .inl (Y.2.1.1, cap, .inl fB))]) (wr := []) (va_runV (As := [.int (zz_b false)]) (rest := [.ref h]) ⟨hx, hb, hml, hown, hw⟩ (ct_T_scansNumber l Y (wc := [(h, .inr (2, [.ref hb0, .int (nI len), .int (nI (zt_run tx len place)), .int token, .int (nI place), .long name, .int word, .int value])), (hb0, .inl (Y.2.1.1, cap, .inl fB))]) ⟨hb0, fB, rfl, ok⟩ hrun1 hrun2 false _) (cwV 1 hw (zz_gV kw_273 kw_275 kw_4 kw_62 kw_276) rfl rfl rfl (by decide +kernel) ⟨Nat.le_of_ble_eq_true rfl, Nat.le_of_ble_eq_true rfl⟩) (zz_preV hK hG hA hP hD hS [0, 1] rfl (by decide) rfl rfl) rfl rfl hl.1 rfl (lv_room (Nat.le_of_ble_eq_true rfl)) dc_T_scanJoined_77 ⟨Nat.le_of_ble_eq_true rfl, Nat.le_of_ble_eq_true rfl⟩) hA hP hD hS [0, 1] [] rfl rfl (by decide) (by decide) (fun r w1 H locs hw1 hP hD hS => ?_)
      obtain ⟨b, vl, e1, rfl, hb1, fB1, rfl, ok1⟩ := hw1
      have hP : va_P Y.1 vwCl [(h, .inr (2, [.ref hb1, .int (nI len), .int (nI (zt_run tx len place)), .int token, .int (nI place), .long name, .int word, .int vl])), (hb1, .inl (Y.2.1.1, cap, .inl fB1))] H := hP
      have hD : va_D A [(h, .inr (2, [.ref hb1, .int (nI len), .int (nI (zt_run tx len place)), .int token, .int (nI place), .long name, .int word, .int vl])), (hb1, .inl (Y.2.1.1, cap, .inl fB1))] := hD
      refine W.widen (k := 0) (n := 0) (Nat.le_refl _) (Nat.le_refl _) ?_
      refine lv_if_eq (tgt := 87) hx hb dc_T_scanJoined_80 (by decide) (fun c_3 => ?_) (fun c_3 => ?_)
      · skip
        have c_3 := zz_bF c_3
        refine lv_iconst (v := 1) hx hb dc_T_scanJoined_87 (by decide) ?_
        refine va_put (D := Y.1) (ci := 2) (v := .int 1) (ty := .int) (C := rn_T) (T := tf_T) (N := 8) hx hb hw wi_T ty_T ty_T_ok nm_T hown hK hP hD hS 0 rfl rfl 3 (by decide) (hw _ kw_95) (fun _ h9 => h9) rfl (by decide +kernel) rfl rfl (Nat.le_of_ble_eq_true rfl) dc_T_scanJoined_88 (fun H locs hP hD hS => ?_)
        have hP : va_P Y.1 vwCl [(h, .inr (2, [.ref hb1, .int (nI len), .int (nI (zt_run tx len place)), .int 1, .int (nI place), .long name, .int word, .int vl])), (hb1, .inl (Y.2.1.1, cap, .inl fB1))] H := hP
        have hD : va_D A [(h, .inr (2, [.ref hb1, .int (nI len), .int (nI (zt_run tx len place)), .int 1, .int (nI place), .long name, .int word, .int vl])), (hb1, .inl (Y.2.1.1, cap, .inl fB1))] := hD
        exact zz_vret (w1 := [(h, .inr (2, [.ref hb1, .int (nI len), .int (nI (zt_run tx len place)), .int 1, .int (nI place), .long name, .int word, .int vl])), (hb1, .inl (Y.2.1.1, cap, .inl fB1))]) hx hb hr hlocks hAe hP hD hS [0, 1] rfl (by decide) ⟨1, zt_run tx len place, name, word, vl, by rw [zt_sj, if_neg c_1, decide_eq_false c_2, ← e1]; show _ = (if b = true then (5 : Int32) else 1, _, _, _, vl); rw [if_neg c_3], hb1, fB1, rfl, ok1⟩ (Nat.le_refl _) (Nat.le_refl _) dc_T_scanJoined_91
      · skip
        have c_3 := zz_bT c_3
        refine lv_iconst (v := 5) hx hb dc_T_scanJoined_83 (by decide) ?_
        refine lv_goto (tgt := 88) hx hb dc_T_scanJoined_84 (by decide) ?_
        refine va_put (D := Y.1) (ci := 2) (v := .int 5) (ty := .int) (C := rn_T) (T := tf_T) (N := 8) hx hb hw wi_T ty_T ty_T_ok nm_T hown hK hP hD hS 0 rfl rfl 3 (by decide) (hw _ kw_95) (fun _ h9 => h9) rfl (by decide +kernel) rfl rfl (Nat.le_of_ble_eq_true rfl) dc_T_scanJoined_88 (fun H locs hP hD hS => ?_)
        have hP : va_P Y.1 vwCl [(h, .inr (2, [.ref hb1, .int (nI len), .int (nI (zt_run tx len place)), .int 5, .int (nI place), .long name, .int word, .int vl])), (hb1, .inl (Y.2.1.1, cap, .inl fB1))] H := hP
        have hD : va_D A [(h, .inr (2, [.ref hb1, .int (nI len), .int (nI (zt_run tx len place)), .int 5, .int (nI place), .long name, .int word, .int vl])), (hb1, .inl (Y.2.1.1, cap, .inl fB1))] := hD
        exact zz_vret (w1 := [(h, .inr (2, [.ref hb1, .int (nI len), .int (nI (zt_run tx len place)), .int 5, .int (nI place), .long name, .int word, .int vl])), (hb1, .inl (Y.2.1.1, cap, .inl fB1))]) hx hb hr hlocks hAe hP hD hS [0, 1] rfl (by decide) ⟨5, zt_run tx len place, name, word, vl, by rw [zt_sj, if_neg c_1, decide_eq_false c_2, ← e1]; show _ = (if b = true then (5 : Int32) else 1, _, _, _, vl); rw [if_pos c_3], hb1, fB1, rfl, ok1⟩ (Nat.le_refl _) (Nat.le_refl _) dc_T_scanJoined_91
    · skip
      refine lv_iconst (v := 1) hx hb dc_T_scanJoined_72 (by decide) ?_
      refine lv_goto (tgt := 77) hx hb dc_T_scanJoined_73 (by decide) ?_
      refine zz_goI (wc := [(h, .inr (2, [.ref hb0, .int (nI len), .int (nI (zt_run tx len place)), .int token, .int (nI place), .long name, .int word, .int value])), (hb0, .inl (Y.2.1.1, cap, .inl fB))]) (wr := []) (va_runV (As := [.int (zz_b true)]) (rest := [.ref h]) ⟨hx, hb, hml, hown, hw⟩ (ct_T_scansNumber l Y (wc := [(h, .inr (2, [.ref hb0, .int (nI len), .int (nI (zt_run tx len place)), .int token, .int (nI place), .long name, .int word, .int value])), (hb0, .inl (Y.2.1.1, cap, .inl fB))]) ⟨hb0, fB, rfl, ok⟩ hrun1 hrun2 true _) (cwV 1 hw (zz_gV kw_273 kw_275 kw_4 kw_62 kw_276) rfl rfl rfl (by decide +kernel) ⟨Nat.le_of_ble_eq_true rfl, Nat.le_of_ble_eq_true rfl⟩) (zz_preV hK hG hA hP hD hS [0, 1] rfl (by decide) rfl rfl) rfl rfl hl.1 rfl (lv_room (Nat.le_of_ble_eq_true rfl)) dc_T_scanJoined_77 ⟨Nat.le_of_ble_eq_true rfl, Nat.le_of_ble_eq_true rfl⟩) hA hP hD hS [0, 1] [] rfl rfl (by decide) (by decide) (fun r w1 H locs hw1 hP hD hS => ?_)
      obtain ⟨b, vl, e1, rfl, hb1, fB1, rfl, ok1⟩ := hw1
      have hP : va_P Y.1 vwCl [(h, .inr (2, [.ref hb1, .int (nI len), .int (nI (zt_run tx len place)), .int token, .int (nI place), .long name, .int word, .int vl])), (hb1, .inl (Y.2.1.1, cap, .inl fB1))] H := hP
      have hD : va_D A [(h, .inr (2, [.ref hb1, .int (nI len), .int (nI (zt_run tx len place)), .int token, .int (nI place), .long name, .int word, .int vl])), (hb1, .inl (Y.2.1.1, cap, .inl fB1))] := hD
      refine W.widen (k := 0) (n := 0) (Nat.le_refl _) (Nat.le_refl _) ?_
      refine lv_if_eq (tgt := 87) hx hb dc_T_scanJoined_80 (by decide) (fun c_4 => ?_) (fun c_4 => ?_)
      · skip
        have c_4 := zz_bF c_4
        refine lv_iconst (v := 1) hx hb dc_T_scanJoined_87 (by decide) ?_
        refine va_put (D := Y.1) (ci := 2) (v := .int 1) (ty := .int) (C := rn_T) (T := tf_T) (N := 8) hx hb hw wi_T ty_T ty_T_ok nm_T hown hK hP hD hS 0 rfl rfl 3 (by decide) (hw _ kw_95) (fun _ h9 => h9) rfl (by decide +kernel) rfl rfl (Nat.le_of_ble_eq_true rfl) dc_T_scanJoined_88 (fun H locs hP hD hS => ?_)
        have hP : va_P Y.1 vwCl [(h, .inr (2, [.ref hb1, .int (nI len), .int (nI (zt_run tx len place)), .int 1, .int (nI place), .long name, .int word, .int vl])), (hb1, .inl (Y.2.1.1, cap, .inl fB1))] H := hP
        have hD : va_D A [(h, .inr (2, [.ref hb1, .int (nI len), .int (nI (zt_run tx len place)), .int 1, .int (nI place), .long name, .int word, .int vl])), (hb1, .inl (Y.2.1.1, cap, .inl fB1))] := hD
        exact zz_vret (w1 := [(h, .inr (2, [.ref hb1, .int (nI len), .int (nI (zt_run tx len place)), .int 1, .int (nI place), .long name, .int word, .int vl])), (hb1, .inl (Y.2.1.1, cap, .inl fB1))]) hx hb hr hlocks hAe hP hD hS [0, 1] rfl (by decide) ⟨1, zt_run tx len place, name, word, vl, by rw [zt_sj, if_neg c_1, decide_eq_true c_2, ← e1]; show _ = (if b = true then (5 : Int32) else 1, _, _, _, vl); rw [if_neg c_4], hb1, fB1, rfl, ok1⟩ (Nat.le_refl _) (Nat.le_refl _) dc_T_scanJoined_91
      · skip
        have c_4 := zz_bT c_4
        refine lv_iconst (v := 5) hx hb dc_T_scanJoined_83 (by decide) ?_
        refine lv_goto (tgt := 88) hx hb dc_T_scanJoined_84 (by decide) ?_
        refine va_put (D := Y.1) (ci := 2) (v := .int 5) (ty := .int) (C := rn_T) (T := tf_T) (N := 8) hx hb hw wi_T ty_T ty_T_ok nm_T hown hK hP hD hS 0 rfl rfl 3 (by decide) (hw _ kw_95) (fun _ h9 => h9) rfl (by decide +kernel) rfl rfl (Nat.le_of_ble_eq_true rfl) dc_T_scanJoined_88 (fun H locs hP hD hS => ?_)
        have hP : va_P Y.1 vwCl [(h, .inr (2, [.ref hb1, .int (nI len), .int (nI (zt_run tx len place)), .int 5, .int (nI place), .long name, .int word, .int vl])), (hb1, .inl (Y.2.1.1, cap, .inl fB1))] H := hP
        have hD : va_D A [(h, .inr (2, [.ref hb1, .int (nI len), .int (nI (zt_run tx len place)), .int 5, .int (nI place), .long name, .int word, .int vl])), (hb1, .inl (Y.2.1.1, cap, .inl fB1))] := hD
        exact zz_vret (w1 := [(h, .inr (2, [.ref hb1, .int (nI len), .int (nI (zt_run tx len place)), .int 5, .int (nI place), .long name, .int word, .int vl])), (hb1, .inl (Y.2.1.1, cap, .inl fB1))]) hx hb hr hlocks hAe hP hD hS [0, 1] rfl (by decide) ⟨5, zt_run tx len place, name, word, vl, by rw [zt_sj, if_neg c_1, decide_eq_true c_2, ← e1]; show _ = (if b = true then (5 : Int32) else 1, _, _, _, vl); rw [if_pos c_4], hb1, fB1, rfl, ok1⟩ (Nat.le_refl _) (Nat.le_refl _) dc_T_scanJoined_91
  · skip
    have c_1 := zz_bT c_1
    refine lv_aload_n hx hb dc_T_scanJoined_45 rfl (lv_at hl 0 rfl) ?_
    refine lv_aload_n hx hb dc_T_scanJoined_46 rfl (lv_at hl 0 rfl) ?_
    refine zz_goI (wc := [(h, .inr (2, [.ref hb0, .int (nI len), .int (nI (zt_run tx len place)), .int token, .int (nI place), .long name, .int word, .int value])), (hb0, .inl (Y.2.1.1, cap, .inl fB))]) (wr := []) (va_runV (As := []) (rest := [.ref h]) ⟨hx, hb, hml, hown, hw⟩ (ct_T_scansName l Y (wc := [(h, .inr (2, [.ref hb0, .int (nI len), .int (nI (zt_run tx len place)), .int token, .int (nI place), .long name, .int word, .int value])), (hb0, .inl (Y.2.1.1, cap, .inl fB))]) ⟨hb0, fB, rfl, ok⟩ (Nat.le_of_lt hrun1) hrun2 _) (cwV 0 hw (zz_gV kw_263 kw_265 kw_3 kw_62 kw_266) rfl rfl rfl (by decide +kernel) ⟨Nat.le_of_ble_eq_true rfl, Nat.le_of_ble_eq_true rfl⟩) (zz_preV hK hG hA hP hD hS [0, 1] rfl (by decide) rfl rfl) rfl rfl hl.1 rfl (lv_room (Nat.le_of_ble_eq_true rfl)) dc_T_scanJoined_47 ⟨Nat.le_of_ble_eq_true rfl, Nat.le_of_ble_eq_true rfl⟩) hA hP hD hS [0, 1] [] rfl rfl (by decide) (by decide) (fun r w1 H locs hw1 hP hD hS => ?_)
    obtain ⟨b, nm, wd, e1, rfl, hb1, fB1, rfl, ok1⟩ := hw1
    have hP : va_P Y.1 vwCl [(h, .inr (2, [.ref hb1, .int (nI len), .int (nI (zt_run tx len place)), .int token, .int (nI place), .long nm, .int wd, .int value])), (hb1, .inl (Y.2.1.1, cap, .inl fB1))] H := hP
    have hD : va_D A [(h, .inr (2, [.ref hb1, .int (nI len), .int (nI (zt_run tx len place)), .int token, .int (nI place), .long nm, .int wd, .int value])), (hb1, .inl (Y.2.1.1, cap, .inl fB1))] := hD
    refine W.widen (k := 0) (n := 0) (Nat.le_refl _) (Nat.le_refl _) ?_
    refine lv_if_eq (tgt := 57) hx hb dc_T_scanJoined_50 (by decide) (fun c_5 => ?_) (fun c_5 => ?_)
    · skip
      have c_5 := zz_bF c_5
      refine lv_iconst (v := 1) hx hb dc_T_scanJoined_57 (by decide) ?_
      refine va_put (D := Y.1) (ci := 2) (v := .int 1) (ty := .int) (C := rn_T) (T := tf_T) (N := 8) hx hb hw wi_T ty_T ty_T_ok nm_T hown hK hP hD hS 0 rfl rfl 3 (by decide) (hw _ kw_95) (fun _ h9 => h9) rfl (by decide +kernel) rfl rfl (Nat.le_of_ble_eq_true rfl) dc_T_scanJoined_58 (fun H locs hP hD hS => ?_)
      have hP : va_P Y.1 vwCl [(h, .inr (2, [.ref hb1, .int (nI len), .int (nI (zt_run tx len place)), .int 1, .int (nI place), .long nm, .int wd, .int value])), (hb1, .inl (Y.2.1.1, cap, .inl fB1))] H := hP
      have hD : va_D A [(h, .inr (2, [.ref hb1, .int (nI len), .int (nI (zt_run tx len place)), .int 1, .int (nI place), .long nm, .int wd, .int value])), (hb1, .inl (Y.2.1.1, cap, .inl fB1))] := hD
      refine lv_goto (tgt := 91) hx hb dc_T_scanJoined_61 (by decide) ?_
      exact zz_vret (w1 := [(h, .inr (2, [.ref hb1, .int (nI len), .int (nI (zt_run tx len place)), .int 1, .int (nI place), .long nm, .int wd, .int value])), (hb1, .inl (Y.2.1.1, cap, .inl fB1))]) hx hb hr hlocks hAe hP hD hS [0, 1] rfl (by decide) ⟨1, zt_run tx len place, nm, wd, value, by rw [zt_sj, if_pos c_1, ← e1]; show _ = (if b = true then (4 : Int32) else 1, _, nm, wd, _); rw [if_neg c_5], hb1, fB1, rfl, ok1⟩ (Nat.le_refl _) (Nat.le_refl _) dc_T_scanJoined_91
    · skip
      have c_5 := zz_bT c_5
      refine lv_iconst (v := 4) hx hb dc_T_scanJoined_53 (by decide) ?_
      refine lv_goto (tgt := 58) hx hb dc_T_scanJoined_54 (by decide) ?_
      refine va_put (D := Y.1) (ci := 2) (v := .int 4) (ty := .int) (C := rn_T) (T := tf_T) (N := 8) hx hb hw wi_T ty_T ty_T_ok nm_T hown hK hP hD hS 0 rfl rfl 3 (by decide) (hw _ kw_95) (fun _ h9 => h9) rfl (by decide +kernel) rfl rfl (Nat.le_of_ble_eq_true rfl) dc_T_scanJoined_58 (fun H locs hP hD hS => ?_)
      have hP : va_P Y.1 vwCl [(h, .inr (2, [.ref hb1, .int (nI len), .int (nI (zt_run tx len place)), .int 4, .int (nI place), .long nm, .int wd, .int value])), (hb1, .inl (Y.2.1.1, cap, .inl fB1))] H := hP
      have hD : va_D A [(h, .inr (2, [.ref hb1, .int (nI len), .int (nI (zt_run tx len place)), .int 4, .int (nI place), .long nm, .int wd, .int value])), (hb1, .inl (Y.2.1.1, cap, .inl fB1))] := hD
      refine lv_goto (tgt := 91) hx hb dc_T_scanJoined_61 (by decide) ?_
      exact zz_vret (w1 := [(h, .inr (2, [.ref hb1, .int (nI len), .int (nI (zt_run tx len place)), .int 4, .int (nI place), .long nm, .int wd, .int value])), (hb1, .inl (Y.2.1.1, cap, .inl fB1))]) hx hb hr hlocks hAe hP hD hS [0, 1] rfl (by decide) ⟨4, zt_run tx len place, nm, wd, value, by rw [zt_sj, if_pos c_1, ← e1]; show _ = (if b = true then (4 : Int32) else 1, _, nm, wd, _); rw [if_pos c_5], hb1, fB1, rfl, ok1⟩ (Nat.le_refl _) (Nat.le_refl _) dc_T_scanJoined_91

set_option maxHeartbeats 4000000 in
set_option maxRecDepth 100000 in
theorem ct_T_toNextToken (l : Launch) (Y : zz_Y) {h cap len next place : Nat} {token word value : Int32} {name : Int64} {tx : Nat → Nat} {wc : va_W} (hok : zt_OK Y h tx cap len next token place name word value wc) (hn : next ≤ len) : zz_V l Y yn_T_toNextToken bc_T_toNextToken 2 none { frames := 3, cells := 0, slots := 0, locals := 70 } [.ref h] wc (fun w1 => ∃ (t : Int32) (nx pl : Nat) (nm : Int64) (wd vl : Int32), (t, nx, pl, nm, wd, vl) = zt_tok tx len next name word value ∧ zt_OK Y h tx cap len nx t pl nm wd vl w1) := by
  intro sz
  obtain ⟨hb0, fB, rfl, ok⟩ := hok
  refine zz_of (cc := bc_T_toNextToken) (maxL := 2) (ret := none) (by decide) (Nat.le_of_ble_eq_true rfl) ?_
  intro p e s m below meth c A ls hsz C0 hl
  subst hsz
  obtain ⟨hx, hb, hr, hml, hlocks, hin, hown, hw, hAe, hA, hK, hG, hP, hD, hS⟩ := id C0
  have hown : s.vm.findClass "TwoLevelParser$Text" = some m.cls := hown
  have hl : lv_has ls 2 [(0, .ref h)] := hl
  obtain ⟨q1, q2, q3, q4, q5, q6⟩ := id ok
  have hsk : zt_skip tx len next ≤ len := by
    have := (zt_skipF_le tx len (len - next) next).2
    rw [zt_skip]; omega
  refine zt_bl (nx0 := next) ok C0 ?_ (len - next) next (by omega) rfl _ _ _ hP hD hS hl
  clear hP hD hS hl
  intro H locs ls hP hD hS hl
  refine lv_aload_n hx hb dc_T_toNextToken_38 rfl (lv_at hl 0 rfl) ?_
  refine lv_aload_n hx hb dc_T_toNextToken_39 rfl (lv_at hl 0 rfl) ?_
  refine va_get (D := Y.1) (ci := 2) (v := .int (nI (zt_skip tx len next))) (C := rn_T) (T := tf_T) (N := 8) hx hb hw wi_T hown hK hP 0 rfl rfl 2 (by decide) (hw _ kw_94) (fun _ h9 => h9) rfl dc_T_toNextToken_40 ?_
  refine va_put (D := Y.1) (ci := 2) (v := .int (nI (zt_skip tx len next))) (ty := .int) (C := rn_T) (T := tf_T) (N := 8) hx hb hw wi_T ty_T ty_T_ok nm_T hown hK hP hD hS 0 rfl rfl 4 (by decide) (hw _ kw_97) (fun _ h9 => h9) rfl (by decide +kernel) rfl rfl (Nat.le_of_ble_eq_true rfl) dc_T_toNextToken_43 (fun H locs hP hD hS => ?_)
  have hP : va_P Y.1 vwCl [(h, .inr (2, [.ref hb0, .int (nI len), .int (nI (zt_skip tx len next)), .int token, .int (nI (zt_skip tx len next)), .long name, .int word, .int value])), (hb0, .inl (Y.2.1.1, cap, .inl fB))] H := hP
  have hD : va_D A [(h, .inr (2, [.ref hb0, .int (nI len), .int (nI (zt_skip tx len next)), .int token, .int (nI (zt_skip tx len next)), .long name, .int word, .int value])), (hb0, .inl (Y.2.1.1, cap, .inl fB))] := hD
  refine lv_aload_n hx hb dc_T_toNextToken_46 rfl (lv_at hl 0 rfl) ?_
  refine lv_aload_n hx hb dc_T_toNextToken_47 rfl (lv_at hl 0 rfl) ?_
  refine va_get (D := Y.1) (ci := 2) (v := .int (nI (zt_skip tx len next))) (C := rn_T) (T := tf_T) (N := 8) hx hb hw wi_T hown hK hP 0 rfl rfl 4 (by decide) (hw _ kw_97) (fun _ h9 => h9) rfl dc_T_toNextToken_48 ?_
  refine vp_callSi (W.runV (As := [.int (nI (zt_skip tx len next))]) (rest := []) ⟨hx, hb, hml, hown, hw⟩ (ct_T_byteAt l Y (wc := [(h, .inr (2, [.ref hb0, .int (nI len), .int (nI (zt_skip tx len next)), .int token, .int (nI (zt_skip tx len next)), .long name, .int word, .int value])), (hb0, .inl (Y.2.1.1, cap, .inl fB))]) ⟨hb0, fB, rfl, ok⟩ (zt_skip tx len next) (by omega) _) (cwV 1 hw (zz_gV kw_243 kw_245 kw_1 kw_62 kw_246) rfl rfl rfl (by decide +kernel) ⟨Nat.le_of_ble_eq_true rfl, Nat.le_of_ble_eq_true rfl⟩) (zz_preV hK hG hA hP hD hS [0, 1] rfl (by decide) rfl rfl) rfl rfl hl.1 rfl (lv_room (Nat.le_of_ble_eq_true rfl)) dc_T_toNextToken_51 ⟨Nat.le_of_ble_eq_true rfl, Nat.le_of_ble_eq_true rfl⟩) (fun r hr9 => ?_)
  subst hr9
  refine lv_istore_n (lv' := [(1, .int (zt_at tx len (zt_skip tx len next))), (0, .ref h)]) hx hb dc_T_toNextToken_54 rfl hl (by decide) rfl (fun ls hl => ?_)
  refine lv_iload_n hx hb dc_T_toNextToken_55 rfl (lv_at hl 0 rfl) ?_
  refine lv_iconst (v := (-1)) hx hb dc_T_toNextToken_56 (by decide) ?_
  refine lv_icmp_ne (tgt := 68) hx hb dc_T_toNextToken_57 (by decide) (fun c_1 => ?_) (fun c_1 => ?_)
  · skip
    refine lv_iload_n hx hb dc_T_toNextToken_68 rfl (lv_at hl 0 rfl) ?_
    refine vp_callSi (W.runS (As := [.int (zt_at tx len (zt_skip tx len next))]) (rest := []) ⟨hx, hb, hml, hown, hw⟩ (ct_T_isJoined l Y (zt_at tx len (zt_skip tx len next)) _) (va_cwS 1 hw (zz_gS kw_250 kw_251 kw_62 kw_252) rfl rfl rfl (by decide +kernel) ⟨Nat.le_of_ble_eq_true rfl, Nat.le_of_ble_eq_true rfl⟩) (zz_preS hK hG hA hP hD hS [] rfl (by decide)) rfl rfl hl.1 rfl (lv_room (Nat.le_of_ble_eq_true rfl)) dc_T_toNextToken_69 ⟨Nat.le_of_ble_eq_true rfl, Nat.le_of_ble_eq_true rfl⟩) (fun r hr9 => ?_)
    subst hr9
    refine lv_if_eq (tgt := 83) hx hb dc_T_toNextToken_72 (by decide) (fun c_2 => ?_) (fun c_2 => ?_)
    · skip
      have c_2 := zz_bF c_2
      refine lv_aload_n hx hb dc_T_toNextToken_83 rfl (lv_at hl 1 rfl) ?_
      refine lv_iload_n hx hb dc_T_toNextToken_84 rfl (lv_at hl 0 rfl) ?_
      refine lv_bipush (v := 40) hx hb dc_T_toNextToken_85 (by decide) ?_
      refine lv_icmp_ne (tgt := 94) hx hb dc_T_toNextToken_87 (by decide) (fun c_3 => ?_) (fun c_3 => ?_)
      · skip
        refine lv_iload_n hx hb dc_T_toNextToken_94 rfl (lv_at hl 0 rfl) ?_
        refine lv_bipush (v := 41) hx hb dc_T_toNextToken_95 (by decide) ?_
        refine lv_icmp_ne (tgt := 104) hx hb dc_T_toNextToken_97 (by decide) (fun c_4 => ?_) (fun c_4 => ?_)
        · skip
          refine lv_iconst (v := 1) hx hb dc_T_toNextToken_104 (by decide) ?_
          refine va_put (D := Y.1) (ci := 2) (v := .int 1) (ty := .int) (C := rn_T) (T := tf_T) (N := 8) hx hb hw wi_T ty_T ty_T_ok nm_T hown hK hP hD hS 0 rfl rfl 3 (by decide) (hw _ kw_95) (fun _ h9 => h9) rfl (by decide +kernel) rfl rfl (Nat.le_of_ble_eq_true rfl) dc_T_toNextToken_105 (fun H locs hP hD hS => ?_)
          have hP : va_P Y.1 vwCl [(h, .inr (2, [.ref hb0, .int (nI len), .int (nI (zt_skip tx len next)), .int 1, .int (nI (zt_skip tx len next)), .long name, .int word, .int value])), (hb0, .inl (Y.2.1.1, cap, .inl fB))] H := hP
          have hD : va_D A [(h, .inr (2, [.ref hb0, .int (nI len), .int (nI (zt_skip tx len next)), .int 1, .int (nI (zt_skip tx len next)), .long name, .int word, .int value])), (hb0, .inl (Y.2.1.1, cap, .inl fB))] := hD
          refine lv_aload_n hx hb dc_T_toNextToken_108 rfl (lv_at hl 1 rfl) ?_
          refine lv_aload_n hx hb dc_T_toNextToken_109 rfl (lv_at hl 1 rfl) ?_
          refine va_get (D := Y.1) (ci := 2) (v := .int (nI (zt_skip tx len next))) (C := rn_T) (T := tf_T) (N := 8) hx hb hw wi_T hown hK hP 0 rfl rfl 4 (by decide) (hw _ kw_97) (fun _ h9 => h9) rfl dc_T_toNextToken_110 ?_
          refine lv_iconst (v := 1) hx hb dc_T_toNextToken_113 (by decide) ?_
          refine lv_iadd hx hb dc_T_toNextToken_114 ?_
          rw [show (nI (zt_skip tx len next)) + 1 = nI (zt_skip tx len next + 1) from nI_1 _]
          refine va_put (D := Y.1) (ci := 2) (v := .int (nI (zt_skip tx len next + 1))) (ty := .int) (C := rn_T) (T := tf_T) (N := 8) hx hb hw wi_T ty_T ty_T_ok nm_T hown hK hP hD hS 0 rfl rfl 2 (by decide) (hw _ kw_94) (fun _ h9 => h9) rfl (by decide +kernel) rfl rfl (Nat.le_of_ble_eq_true rfl) dc_T_toNextToken_115 (fun H locs hP hD hS => ?_)
          have hP : va_P Y.1 vwCl [(h, .inr (2, [.ref hb0, .int (nI len), .int (nI (zt_skip tx len next + 1)), .int 1, .int (nI (zt_skip tx len next)), .long name, .int word, .int value])), (hb0, .inl (Y.2.1.1, cap, .inl fB))] H := hP
          have hD : va_D A [(h, .inr (2, [.ref hb0, .int (nI len), .int (nI (zt_skip tx len next + 1)), .int 1, .int (nI (zt_skip tx len next)), .long name, .int word, .int value])), (hb0, .inl (Y.2.1.1, cap, .inl fB))] := hD
          exact zz_vret (w1 := [(h, .inr (2, [.ref hb0, .int (nI len), .int (nI (zt_skip tx len next + 1)), .int 1, .int (nI (zt_skip tx len next)), .long name, .int word, .int value])), (hb0, .inl (Y.2.1.1, cap, .inl fB))]) hx hb hr hlocks hAe hP hD hS [0, 1] rfl (by decide) ⟨1, zt_skip tx len next + 1, zt_skip tx len next, name, word, value, by rw [zt_tok, if_neg c_1, if_neg c_2, if_neg c_3, if_neg c_4], hb0, fB, rfl, ok⟩ (Nat.le_refl _) (Nat.le_refl _) dc_T_toNextToken_118
        · skip
          refine lv_iconst (v := 3) hx hb dc_T_toNextToken_100 (by decide) ?_
          refine lv_goto (tgt := 105) hx hb dc_T_toNextToken_101 (by decide) ?_
          refine va_put (D := Y.1) (ci := 2) (v := .int 3) (ty := .int) (C := rn_T) (T := tf_T) (N := 8) hx hb hw wi_T ty_T ty_T_ok nm_T hown hK hP hD hS 0 rfl rfl 3 (by decide) (hw _ kw_95) (fun _ h9 => h9) rfl (by decide +kernel) rfl rfl (Nat.le_of_ble_eq_true rfl) dc_T_toNextToken_105 (fun H locs hP hD hS => ?_)
          have hP : va_P Y.1 vwCl [(h, .inr (2, [.ref hb0, .int (nI len), .int (nI (zt_skip tx len next)), .int 3, .int (nI (zt_skip tx len next)), .long name, .int word, .int value])), (hb0, .inl (Y.2.1.1, cap, .inl fB))] H := hP
          have hD : va_D A [(h, .inr (2, [.ref hb0, .int (nI len), .int (nI (zt_skip tx len next)), .int 3, .int (nI (zt_skip tx len next)), .long name, .int word, .int value])), (hb0, .inl (Y.2.1.1, cap, .inl fB))] := hD
          refine lv_aload_n hx hb dc_T_toNextToken_108 rfl (lv_at hl 1 rfl) ?_
          refine lv_aload_n hx hb dc_T_toNextToken_109 rfl (lv_at hl 1 rfl) ?_
          refine va_get (D := Y.1) (ci := 2) (v := .int (nI (zt_skip tx len next))) (C := rn_T) (T := tf_T) (N := 8) hx hb hw wi_T hown hK hP 0 rfl rfl 4 (by decide) (hw _ kw_97) (fun _ h9 => h9) rfl dc_T_toNextToken_110 ?_
          refine lv_iconst (v := 1) hx hb dc_T_toNextToken_113 (by decide) ?_
          refine lv_iadd hx hb dc_T_toNextToken_114 ?_
          rw [show (nI (zt_skip tx len next)) + 1 = nI (zt_skip tx len next + 1) from nI_1 _]
          refine va_put (D := Y.1) (ci := 2) (v := .int (nI (zt_skip tx len next + 1))) (ty := .int) (C := rn_T) (T := tf_T) (N := 8) hx hb hw wi_T ty_T ty_T_ok nm_T hown hK hP hD hS 0 rfl rfl 2 (by decide) (hw _ kw_94) (fun _ h9 => h9) rfl (by decide +kernel) rfl rfl (Nat.le_of_ble_eq_true rfl) dc_T_toNextToken_115 (fun H locs hP hD hS => ?_)
          have hP : va_P Y.1 vwCl [(h, .inr (2, [.ref hb0, .int (nI len), .int (nI (zt_skip tx len next + 1)), .int 3, .int (nI (zt_skip tx len next)), .long name, .int word, .int value])), (hb0, .inl (Y.2.1.1, cap, .inl fB))] H := hP
          have hD : va_D A [(h, .inr (2, [.ref hb0, .int (nI len), .int (nI (zt_skip tx len next + 1)), .int 3, .int (nI (zt_skip tx len next)), .long name, .int word, .int value])), (hb0, .inl (Y.2.1.1, cap, .inl fB))] := hD
          exact zz_vret (w1 := [(h, .inr (2, [.ref hb0, .int (nI len), .int (nI (zt_skip tx len next + 1)), .int 3, .int (nI (zt_skip tx len next)), .long name, .int word, .int value])), (hb0, .inl (Y.2.1.1, cap, .inl fB))]) hx hb hr hlocks hAe hP hD hS [0, 1] rfl (by decide) ⟨3, zt_skip tx len next + 1, zt_skip tx len next, name, word, value, by rw [zt_tok, if_neg c_1, if_neg c_2, if_neg c_3, if_pos c_4], hb0, fB, rfl, ok⟩ (Nat.le_refl _) (Nat.le_refl _) dc_T_toNextToken_118
      · skip
        refine lv_iconst (v := 2) hx hb dc_T_toNextToken_90 (by decide) ?_
        refine lv_goto (tgt := 105) hx hb dc_T_toNextToken_91 (by decide) ?_
        refine va_put (D := Y.1) (ci := 2) (v := .int 2) (ty := .int) (C := rn_T) (T := tf_T) (N := 8) hx hb hw wi_T ty_T ty_T_ok nm_T hown hK hP hD hS 0 rfl rfl 3 (by decide) (hw _ kw_95) (fun _ h9 => h9) rfl (by decide +kernel) rfl rfl (Nat.le_of_ble_eq_true rfl) dc_T_toNextToken_105 (fun H locs hP hD hS => ?_)
        have hP : va_P Y.1 vwCl [(h, .inr (2, [.ref hb0, .int (nI len), .int (nI (zt_skip tx len next)), .int 2, .int (nI (zt_skip tx len next)), .long name, .int word, .int value])), (hb0, .inl (Y.2.1.1, cap, .inl fB))] H := hP
        have hD : va_D A [(h, .inr (2, [.ref hb0, .int (nI len), .int (nI (zt_skip tx len next)), .int 2, .int (nI (zt_skip tx len next)), .long name, .int word, .int value])), (hb0, .inl (Y.2.1.1, cap, .inl fB))] := hD
        refine lv_aload_n hx hb dc_T_toNextToken_108 rfl (lv_at hl 1 rfl) ?_
        refine lv_aload_n hx hb dc_T_toNextToken_109 rfl (lv_at hl 1 rfl) ?_
        refine va_get (D := Y.1) (ci := 2) (v := .int (nI (zt_skip tx len next))) (C := rn_T) (T := tf_T) (N := 8) hx hb hw wi_T hown hK hP 0 rfl rfl 4 (by decide) (hw _ kw_97) (fun _ h9 => h9) rfl dc_T_toNextToken_110 ?_
        refine lv_iconst (v := 1) hx hb dc_T_toNextToken_113 (by decide) ?_
        refine lv_iadd hx hb dc_T_toNextToken_114 ?_
        rw [show (nI (zt_skip tx len next)) + 1 = nI (zt_skip tx len next + 1) from nI_1 _]
        refine va_put (D := Y.1) (ci := 2) (v := .int (nI (zt_skip tx len next + 1))) (ty := .int) (C := rn_T) (T := tf_T) (N := 8) hx hb hw wi_T ty_T ty_T_ok nm_T hown hK hP hD hS 0 rfl rfl 2 (by decide) (hw _ kw_94) (fun _ h9 => h9) rfl (by decide +kernel) rfl rfl (Nat.le_of_ble_eq_true rfl) dc_T_toNextToken_115 (fun H locs hP hD hS => ?_)
        have hP : va_P Y.1 vwCl [(h, .inr (2, [.ref hb0, .int (nI len), .int (nI (zt_skip tx len next + 1)), .int 2, .int (nI (zt_skip tx len next)), .long name, .int word, .int value])), (hb0, .inl (Y.2.1.1, cap, .inl fB))] H := hP
        have hD : va_D A [(h, .inr (2, [.ref hb0, .int (nI len), .int (nI (zt_skip tx len next + 1)), .int 2, .int (nI (zt_skip tx len next)), .long name, .int word, .int value])), (hb0, .inl (Y.2.1.1, cap, .inl fB))] := hD
        exact zz_vret (w1 := [(h, .inr (2, [.ref hb0, .int (nI len), .int (nI (zt_skip tx len next + 1)), .int 2, .int (nI (zt_skip tx len next)), .long name, .int word, .int value])), (hb0, .inl (Y.2.1.1, cap, .inl fB))]) hx hb hr hlocks hAe hP hD hS [0, 1] rfl (by decide) ⟨2, zt_skip tx len next + 1, zt_skip tx len next, name, word, value, by rw [zt_tok, if_neg c_1, if_neg c_2, if_pos c_3], hb0, fB, rfl, ok⟩ (Nat.le_refl _) (Nat.le_refl _) dc_T_toNextToken_118
    · skip
      have c_2 := zz_bT c_2
      refine lv_aload_n hx hb dc_T_toNextToken_75 rfl (lv_at hl 1 rfl) ?_
      refine lv_iload_n hx hb dc_T_toNextToken_76 rfl (lv_at hl 0 rfl) ?_
      have hlt : zt_skip tx len next < len := by
        rcases Nat.lt_or_ge (zt_skip tx len next) len with q | q
        · exact q
        · exact absurd (by rw [zt_at, if_neg (by omega)]) c_1
      refine zz_goV (wc := [(h, .inr (2, [.ref hb0, .int (nI len), .int (nI (zt_skip tx len next)), .int token, .int (nI (zt_skip tx len next)), .long name, .int word, .int value])), (hb0, .inl (Y.2.1.1, cap, .inl fB))]) (wr := []) (va_runV (As := [.int (zt_at tx len (zt_skip tx len next))]) (rest := []) ⟨hx, hb, hml, hown, hw⟩ (ct_T_scanJoined l Y (wc := [(h, .inr (2, [.ref hb0, .int (nI len), .int (nI (zt_skip tx len next)), .int token, .int (nI (zt_skip tx len next)), .long name, .int word, .int value])), (hb0, .inl (Y.2.1.1, cap, .inl fB))]) ⟨hb0, fB, rfl, ok⟩ hlt c_2 (zt_at tx len (zt_skip tx len next)) _) (cwV 1 hw (zz_gV kw_259 kw_261 kw_2 kw_62 kw_262) rfl rfl rfl (by decide +kernel) ⟨Nat.le_of_ble_eq_true rfl, Nat.le_of_ble_eq_true rfl⟩) (zz_preV hK hG hA hP hD hS [0, 1] rfl (by decide) rfl rfl) rfl rfl hl.1 rfl (lv_room (Nat.le_of_ble_eq_true rfl)) dc_T_toNextToken_77 ⟨Nat.le_of_ble_eq_true rfl, Nat.le_of_ble_eq_true rfl⟩) hA hP hD hS [0, 1] [] rfl rfl (by decide) (by decide) (fun w1 H locs hw1 hP hD hS => ?_)
      obtain ⟨t, nx, nm, wd, vl, e1, hb1, fB1, rfl, ok1⟩ := hw1
      have hP : va_P Y.1 vwCl [(h, .inr (2, [.ref hb1, .int (nI len), .int (nI nx), .int t, .int (nI (zt_skip tx len next)), .long nm, .int wd, .int vl])), (hb1, .inl (Y.2.1.1, cap, .inl fB1))] H := hP
      have hD : va_D A [(h, .inr (2, [.ref hb1, .int (nI len), .int (nI nx), .int t, .int (nI (zt_skip tx len next)), .long nm, .int wd, .int vl])), (hb1, .inl (Y.2.1.1, cap, .inl fB1))] := hD
      refine W.widen (k := 0) (n := 0) (Nat.le_refl _) (Nat.le_refl _) ?_
      refine lv_goto (tgt := 118) hx hb dc_T_toNextToken_80 (by decide) ?_
      exact zz_vret (w1 := [(h, .inr (2, [.ref hb1, .int (nI len), .int (nI nx), .int t, .int (nI (zt_skip tx len next)), .long nm, .int wd, .int vl])), (hb1, .inl (Y.2.1.1, cap, .inl fB1))]) hx hb hr hlocks hAe hP hD hS [0, 1] rfl (by decide) ⟨t, nx, zt_skip tx len next, nm, wd, vl, by rw [zt_tok, if_neg c_1, if_pos c_2, ← e1], hb1, fB1, rfl, ok1⟩ (Nat.le_refl _) (Nat.le_refl _) dc_T_toNextToken_118
  · skip
    refine lv_aload_n hx hb dc_T_toNextToken_60 rfl (lv_at hl 1 rfl) ?_
    refine lv_iconst (v := 0) hx hb dc_T_toNextToken_61 (by decide) ?_
    refine va_put (D := Y.1) (ci := 2) (v := .int 0) (ty := .int) (C := rn_T) (T := tf_T) (N := 8) hx hb hw wi_T ty_T ty_T_ok nm_T hown hK hP hD hS 0 rfl rfl 3 (by decide) (hw _ kw_95) (fun _ h9 => h9) rfl (by decide +kernel) rfl rfl (Nat.le_of_ble_eq_true rfl) dc_T_toNextToken_62 (fun H locs hP hD hS => ?_)
    have hP : va_P Y.1 vwCl [(h, .inr (2, [.ref hb0, .int (nI len), .int (nI (zt_skip tx len next)), .int 0, .int (nI (zt_skip tx len next)), .long name, .int word, .int value])), (hb0, .inl (Y.2.1.1, cap, .inl fB))] H := hP
    have hD : va_D A [(h, .inr (2, [.ref hb0, .int (nI len), .int (nI (zt_skip tx len next)), .int 0, .int (nI (zt_skip tx len next)), .long name, .int word, .int value])), (hb0, .inl (Y.2.1.1, cap, .inl fB))] := hD
    refine lv_goto (tgt := 118) hx hb dc_T_toNextToken_65 (by decide) ?_
    exact zz_vret (w1 := [(h, .inr (2, [.ref hb0, .int (nI len), .int (nI (zt_skip tx len next)), .int 0, .int (nI (zt_skip tx len next)), .long name, .int word, .int value])), (hb0, .inl (Y.2.1.1, cap, .inl fB))]) hx hb hr hlocks hAe hP hD hS [0, 1] rfl (by decide) ⟨0, zt_skip tx len next, zt_skip tx len next, name, word, value, by rw [zt_tok, if_pos c_1], hb0, fB, rfl, ok⟩ (Nat.le_refl _) (Nat.le_refl _) dc_T_toNextToken_118

set_option maxHeartbeats 4000000 in
set_option maxRecDepth 100000 in
theorem ct_T_toFirstToken (l : Launch) (Y : zz_Y) {h cap len next place : Nat} {token word value : Int32} {name : Int64} {tx : Nat → Nat} {wc : va_W} (hok : zt_OK Y h tx cap len next token place name word value wc) : zz_V l Y yn_T_toFirstToken bc_T_toFirstToken 1 none { frames := 4, cells := 0, slots := 0, locals := 91 } [.ref h] wc (fun w1 => ∃ (t : Int32) (nx pl : Nat) (nm : Int64) (wd vl : Int32), (t, nx, pl, nm, wd, vl) = zt_tok tx len 0 name word value ∧ zt_OK Y h tx cap len nx t pl nm wd vl w1) := by
  intro sz
  obtain ⟨hb0, fB, rfl, ok⟩ := hok
  refine zz_of (cc := bc_T_toFirstToken) (maxL := 1) (ret := none) (by decide) (Nat.le_of_ble_eq_true rfl) ?_
  intro p e s m below meth c A ls hsz C0 hl
  subst hsz
  obtain ⟨hx, hb, hr, hml, hlocks, hin, hown, hw, hAe, hA, hK, hG, hP, hD, hS⟩ := C0
  have hown : s.vm.findClass "TwoLevelParser$Text" = some m.cls := hown
  have hl : lv_has ls 1 [(0, .ref h)] := hl
  refine lv_aload_n hx hb dc_T_toFirstToken_0 rfl (lv_at hl 0 rfl) ?_
  refine lv_iconst (v := 0) hx hb dc_T_toFirstToken_1 (by decide) ?_
  refine va_put (D := Y.1) (ci := 2) (v := .int 0) (ty := .int) (C := rn_T) (T := tf_T) (N := 8) hx hb hw wi_T ty_T ty_T_ok nm_T hown hK hP hD hS 0 rfl rfl 2 (by decide) (hw _ kw_94) (fun _ h9 => h9) rfl (by decide +kernel) rfl rfl (Nat.le_of_ble_eq_true rfl) dc_T_toFirstToken_2 (fun H locs hP hD hS => ?_)
  have hP : va_P Y.1 vwCl [(h, .inr (2, [.ref hb0, .int (nI len), .int 0, .int token, .int (nI place), .long name, .int word, .int value])), (hb0, .inl (Y.2.1.1, cap, .inl fB))] H := hP
  have hD : va_D A [(h, .inr (2, [.ref hb0, .int (nI len), .int 0, .int token, .int (nI place), .long name, .int word, .int value])), (hb0, .inl (Y.2.1.1, cap, .inl fB))] := hD
  refine lv_aload_n hx hb dc_T_toFirstToken_5 rfl (lv_at hl 0 rfl) ?_
  have hP : va_P Y.1 vwCl [(h, .inr (2, [.ref hb0, .int (nI len), .int (nI 0), .int token, .int (nI place), .long name, .int word, .int value])), (hb0, .inl (Y.2.1.1, cap, .inl fB))] H := hP
  have hD : va_D A [(h, .inr (2, [.ref hb0, .int (nI len), .int (nI 0), .int token, .int (nI place), .long name, .int word, .int value])), (hb0, .inl (Y.2.1.1, cap, .inl fB))] := hD
  refine zz_goV (wc := [(h, .inr (2, [.ref hb0, .int (nI len), .int (nI 0), .int token, .int (nI place), .long name, .int word, .int value])), (hb0, .inl (Y.2.1.1, cap, .inl fB))]) (wr := []) (va_runV (As := []) (rest := []) ⟨hx, hb, hml, hown, hw⟩ (ct_T_toNextToken l Y (wc := [(h, .inr (2, [.ref hb0, .int (nI len), .int (nI 0), .int token, .int (nI place), .long name, .int word, .int value])), (hb0, .inl (Y.2.1.1, cap, .inl fB))]) ⟨hb0, fB, rfl, ok⟩ (Nat.zero_le _) _) (cwV 0 hw (zz_gV kw_239 kw_240 kw_241 kw_62 kw_242) rfl rfl rfl (by decide +kernel) ⟨Nat.le_of_ble_eq_true rfl, Nat.le_of_ble_eq_true rfl⟩) (zz_preV hK hG hA hP hD hS [0, 1] rfl (by decide) rfl rfl) rfl rfl hl.1 rfl (lv_room (Nat.le_of_ble_eq_true rfl)) dc_T_toFirstToken_6 ⟨Nat.le_of_ble_eq_true rfl, Nat.le_of_ble_eq_true rfl⟩) hA hP hD hS [0, 1] [] rfl rfl (by decide) (by decide) (fun w1 H locs hw1 hP hD hS => ?_)
  obtain ⟨t, nx, pl, nm, wd, vl, e1, hb1, fB1, rfl, ok1⟩ := hw1
  have hP : va_P Y.1 vwCl [(h, .inr (2, [.ref hb1, .int (nI len), .int (nI nx), .int t, .int (nI pl), .long nm, .int wd, .int vl])), (hb1, .inl (Y.2.1.1, cap, .inl fB1))] H := hP
  have hD : va_D A [(h, .inr (2, [.ref hb1, .int (nI len), .int (nI nx), .int t, .int (nI pl), .long nm, .int wd, .int vl])), (hb1, .inl (Y.2.1.1, cap, .inl fB1))] := hD
  exact zz_vret (w1 := [(h, .inr (2, [.ref hb1, .int (nI len), .int (nI nx), .int t, .int (nI pl), .long nm, .int wd, .int vl])), (hb1, .inl (Y.2.1.1, cap, .inl fB1))]) hx hb hr hlocks hAe hP hD hS [0, 1] rfl (by decide) ⟨t, nx, pl, nm, wd, vl, e1, hb1, fB1, rfl, ok1⟩ (Nat.le_refl _) (Nat.le_refl _) dc_T_toFirstToken_9
