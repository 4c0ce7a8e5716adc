/-! CONSTRUCTORS -/
set_option maxHeartbeats 4000000 in
set_option maxRecDepth 100000 in
theorem ct_T_init (l : Launch) (Y : zz_Y) (h : Nat) (tx : Nat → Nat) : zz_V l Y yn_T_init bc_T_init 1 none { frames := 1, cells := 1, slots := 64, locals := 12 } [.ref h] [(h, .inr (2, [.null, .int 0, .int 0, .int 0, .int 0, .long 0, .int 0, .int 0]))] (fun w1 => zt_OK Y h tx 64 0 0 0 0 0 (-1) 0 w1) := by
  intro sz
  refine zz_of (cc := bc_T_init) (maxL := 1) (ret := none) (by decide) (Nat.le_of_ble_eq_true rfl) ?_
  intro p e s m below meth c A ls hsz C0 hl
  subst hsz
  obtain ⟨hx, hb, hr, hml, hlocks, hin, hown, hw, hAe, hA, hK, hG, hP, hD, hS⟩ := C0
  have hown : s.vm.findClass "TwoLevelParser$Text" = some m.cls := hown
  have hl : lv_has ls 1 [(0, .ref h)] := hl
  refine lv_aload_n hx hb dc_T_init_0 rfl (lv_at hl 0 rfl) ?_
  refine W.objInit hx hb hown (hw _ kw_91) (hw _ kw_78) (hw _ kw_79) rfl (by rw [hml]; exact hl.1) rfl dc_T_init_1 (Nat.le_of_ble_eq_true rfl) (Nat.le_of_ble_eq_true rfl) ?_
  refine W.eq (g2 := F0 m 4 ls []) rfl ?_
  refine lv_aload_n hx hb dc_T_init_4 rfl (lv_at hl 0 rfl) ?_
  refine lv_bipush (v := 64) hx hb dc_T_init_5 (by decide) ?_
  refine va_newa (D := Y.1) (ty := .byte) (atype := .byte) (a0 := (64, .inl (fun _ => 0))) hx hb (hw _ kw_122) rfl hK hP hD hS hA (fun _ => rfl) (by decide) (by decide) (by show 64 * 1 ≤ 536870912; omega) (Nat.le_refl _) (Nat.le_refl _) dc_T_init_7 (fun q cA H hK2 hP hD hS => ?_)
  have hcA : cA = Y.2.1.1 := Option.some.inj ((va_nm_byte (hK2.2 3 _ rfl).2).symm.trans (va_nm_byte (hK.2 0 _ rfl).2))
  subst hcA
  have hP : va_P Y.1 vwCl [(h, .inr (2, [.null, .int 0, .int 0, .int 0, .int 0, .long 0, .int 0, .int 0])), (q, .inl (Y.2.1.1, 64, .inl (fun _ => 0)))] H := hP
  have hD : va_D A [(h, .inr (2, [.null, .int 0, .int 0, .int 0, .int 0, .long 0, .int 0, .int 0])), (q, .inl (Y.2.1.1, 64, .inl (fun _ => 0)))] := hD
  refine va_put (D := Y.1) (ci := 2) (v := .ref q) (ty := .array .byte) (C := rn_T) (T := tf_T) (N := 8) hx hb hw wi_T ty_T ty_T_ok nm_T hown hK hP hD hS 0 rfl rfl 0 (by decide) (hw _ kw_92) (fun _ h9 => h9) rfl (by decide +kernel) rfl rfl (Nat.le_of_ble_eq_true rfl) dc_T_init_9 (fun H locs hP hD hS => ?_)
  have hP : va_P Y.1 vwCl [(h, .inr (2, [.ref q, .int 0, .int 0, .int 0, .int 0, .long 0, .int 0, .int 0])), (q, .inl (Y.2.1.1, 64, .inl (fun _ => 0)))] H := hP
  have hD : va_D A [(h, .inr (2, [.ref q, .int 0, .int 0, .int 0, .int 0, .long 0, .int 0, .int 0])), (q, .inl (Y.2.1.1, 64, .inl (fun _ => 0)))] := hD
  refine lv_aload_n hx hb dc_T_init_12 rfl (lv_at hl 0 rfl) ?_
  refine lv_iconst (v := 0) hx hb dc_T_init_13 (by decide) ?_
  refine va_put (D := Y.1) (ci := 2) (v := .int 0) (ty := .int) (C := rn_T) (T := tf_T) (N := 8) hx hb hw wi_T ty_T ty_T_ok nm_T hown hK hP hD hS 0 rfl rfl 1 (by decide) (hw _ kw_93) (fun _ h9 => h9) rfl (by decide +kernel) rfl rfl (Nat.le_of_ble_eq_true rfl) dc_T_init_14 (fun H locs hP hD hS => ?_)
  have hP : va_P Y.1 vwCl [(h, .inr (2, [.ref q, .int 0, .int 0, .int 0, .int 0, .long 0, .int 0, .int 0])), (q, .inl (Y.2.1.1, 64, .inl (fun _ => 0)))] H := hP
  have hD : va_D A [(h, .inr (2, [.ref q, .int 0, .int 0, .int 0, .int 0, .long 0, .int 0, .int 0])), (q, .inl (Y.2.1.1, 64, .inl (fun _ => 0)))] := hD
  refine lv_aload_n hx hb dc_T_init_17 rfl (lv_at hl 0 rfl) ?_
  refine lv_iconst (v := 0) hx hb dc_T_init_18 (by decide) ?_
  refine va_put (D := Y.1) (ci := 2) (v := .int 0) (ty := .int) (C := rn_T) (T := tf_T) (N := 8) hx hb hw wi_T ty_T ty_T_ok nm_T hown hK hP hD hS 0 rfl rfl 2 (by decide) (hw _ kw_94) (fun _ h9 => h9) rfl (by decide +kernel) rfl rfl (Nat.le_of_ble_eq_true rfl) dc_T_init_19 (fun H locs hP hD hS => ?_)
  have hP : va_P Y.1 vwCl [(h, .inr (2, [.ref q, .int 0, .int 0, .int 0, .int 0, .long 0, .int 0, .int 0])), (q, .inl (Y.2.1.1, 64, .inl (fun _ => 0)))] H := hP
  have hD : va_D A [(h, .inr (2, [.ref q, .int 0, .int 0, .int 0, .int 0, .long 0, .int 0, .int 0])), (q, .inl (Y.2.1.1, 64, .inl (fun _ => 0)))] := hD
  refine lv_aload_n hx hb dc_T_init_22 rfl (lv_at hl 0 rfl) ?_
  refine lv_iconst (v := 0) hx hb dc_T_init_23 (by decide) ?_
  refine va_put (D := Y.1) (ci := 2) (v := .int 0) (ty := .int) (C := rn_T) (T := tf_T) (N := 8) hx hb hw wi_T ty_T ty_T_ok nm_T hown hK hP hD hS 0 rfl rfl 3 (by decide) (hw _ kw_95) (fun _ h9 => h9) rfl (by decide +kernel) rfl rfl (Nat.le_of_ble_eq_true rfl) dc_T_init_24 (fun H locs hP hD hS => ?_)
  have hP : va_P Y.1 vwCl [(h, .inr (2, [.ref q, .int 0, .int 0, .int 0, .int 0, .long 0, .int 0, .int 0])), (q, .inl (Y.2.1.1, 64, .inl (fun _ => 0)))] H := hP
  have hD : va_D A [(h, .inr (2, [.ref q, .int 0, .int 0, .int 0, .int 0, .long 0, .int 0, .int 0])), (q, .inl (Y.2.1.1, 64, .inl (fun _ => 0)))] := hD
  refine lv_aload_n hx hb dc_T_init_27 rfl (lv_at hl 0 rfl) ?_
  refine lv_iconst (v := 0) hx hb dc_T_init_28 (by decide) ?_
  refine va_put (D := Y.1) (ci := 2) (v := .int 0) (ty := .int) (C := rn_T) (T := tf_T) (N := 8) hx hb hw wi_T ty_T ty_T_ok nm_T hown hK hP hD hS 0 rfl rfl 4 (by decide) (hw _ kw_97) (fun _ h9 => h9) rfl (by decide +kernel) rfl rfl (Nat.le_of_ble_eq_true rfl) dc_T_init_29 (fun H locs hP hD hS => ?_)
  have hP : va_P Y.1 vwCl [(h, .inr (2, [.ref q, .int 0, .int 0, .int 0, .int 0, .long 0, .int 0, .int 0])), (q, .inl (Y.2.1.1, 64, .inl (fun _ => 0)))] H := hP
  have hD : va_D A [(h, .inr (2, [.ref q, .int 0, .int 0, .int 0, .int 0, .long 0, .int 0, .int 0])), (q, .inl (Y.2.1.1, 64, .inl (fun _ => 0)))] := hD
  refine lv_aload_n hx hb dc_T_init_32 rfl (lv_at hl 0 rfl) ?_
  refine lv_lconst (v := 0) hx hb dc_T_init_33 (by decide) ?_
  refine va_put (D := Y.1) (ci := 2) (v := .long 0) (ty := .long) (C := rn_T) (T := tf_T) (N := 8) hx hb hw wi_T ty_T ty_T_ok nm_T hown hK hP hD hS 0 rfl rfl 5 (by decide) (hw _ kw_99) (fun _ h9 => h9) rfl (by decide +kernel) rfl rfl (Nat.le_of_ble_eq_true rfl) dc_T_init_34 (fun H locs hP hD hS => ?_)
  have hP : va_P Y.1 vwCl [(h, .inr (2, [.ref q, .int 0, .int 0, .int 0, .int 0, .long 0, .int 0, .int 0])), (q, .inl (Y.2.1.1, 64, .inl (fun _ => 0)))] H := hP
  have hD : va_D A [(h, .inr (2, [.ref q, .int 0, .int 0, .int 0, .int 0, .long 0, .int 0, .int 0])), (q, .inl (Y.2.1.1, 64, .inl (fun _ => 0)))] := hD
  refine lv_aload_n hx hb dc_T_init_37 rfl (lv_at hl 0 rfl) ?_
  refine lv_iconst (v := (-1)) hx hb dc_T_init_38 (by decide) ?_
  refine va_put (D := Y.1) (ci := 2) (v := .int (-1)) (ty := .int) (C := rn_T) (T := tf_T) (N := 8) hx hb hw wi_T ty_T ty_T_ok nm_T hown hK hP hD hS 0 rfl rfl 6 (by decide) (hw _ kw_101) (fun _ h9 => h9) rfl (by decide +kernel) rfl rfl (Nat.le_of_ble_eq_true rfl) dc_T_init_39 (fun H locs hP hD hS => ?_)
  have hP : va_P Y.1 vwCl [(h, .inr (2, [.ref q, .int 0, .int 0, .int 0, .int 0, .long 0, .int (-1), .int 0])), (q, .inl (Y.2.1.1, 64, .inl (fun _ => 0)))] H := hP
  have hD : va_D A [(h, .inr (2, [.ref q, .int 0, .int 0, .int 0, .int 0, .long 0, .int (-1), .int 0])), (q, .inl (Y.2.1.1, 64, .inl (fun _ => 0)))] := hD
  refine lv_aload_n hx hb dc_T_init_42 rfl (lv_at hl 0 rfl) ?_
  refine lv_iconst (v := 0) hx hb dc_T_init_43 (by decide) ?_
  refine va_put (D := Y.1) (ci := 2) (v := .int 0) (ty := .int) (C := rn_T) (T := tf_T) (N := 8) hx hb hw wi_T ty_T ty_T_ok nm_T hown hK hP hD hS 0 rfl rfl 7 (by decide) (hw _ kw_103) (fun _ h9 => h9) rfl (by decide +kernel) rfl rfl (Nat.le_of_ble_eq_true rfl) dc_T_init_44 (fun H locs hP hD hS => ?_)
  have hP : va_P Y.1 vwCl [(h, .inr (2, [.ref q, .int 0, .int 0, .int 0, .int 0, .long 0, .int (-1), .int 0])), (q, .inl (Y.2.1.1, 64, .inl (fun _ => 0)))] H := hP
  have hD : va_D A [(h, .inr (2, [.ref q, .int 0, .int 0, .int 0, .int 0, .long 0, .int (-1), .int 0])), (q, .inl (Y.2.1.1, 64, .inl (fun _ => 0)))] := hD
  exact zz_vret (w1 := [(h, .inr (2, [.ref q, .int 0, .int 0, .int 0, .int 0, .long 0, .int (-1), .int 0])), (q, .inl (Y.2.1.1, 64, .inl (fun _ => 0)))]) hx hb hr hlocks hAe hP hD hS [0, 1] rfl (by decide) ⟨q, fun _ => 0, rfl, by decide, by decide, by decide, by decide, fun j hj => absurd hj (Nat.not_lt_zero _), sb_fit0⟩ (Nat.le_refl _) (Nat.le_refl _) dc_T_init_47

set_option maxHeartbeats 4000000 in
set_option maxRecDepth 100000 in
theorem ct_R_init (l : Launch) (Y : zz_Y) (h w nw : Nat) (hw1 : 1 ≤ w ∧ w ≤ 16) (hw2 : 1 ≤ nw ∧ nw ≤ 16) (num : Nat → Nat → Int32) (nam : Nat → Nat → Int64) : zz_V l Y yn_R_init bc_R_init 3 none { frames := 1, cells := 2, slots := 4 * w + 4 * nw, locals := 20 } [.ref h, .int (nI w), .int (nI nw)] [(h, .inr (1, [.int 0, .int 0, .null, .null, .int 0]))] (fun w1 => zr_OK Y h w nw 0 4 num nam w1) := by
  intro sz
  refine zz_of (cc := bc_R_init) (maxL := 3) (ret := none) (by decide) (Nat.le_of_ble_eq_true rfl) ?_
  intro p e s m below meth c A ls hsz C0 hl
  subst hsz
  obtain ⟨hx, hb, hr, hml, hlocks, hin, hown, hw, hAe, hA, hK, hG, hP, hD, hS⟩ := C0
  have hown : s.vm.findClass "TwoLevelParser$Records" = some m.cls := hown
  have hl : lv_has ls 3 [(0, .ref h), (1, .int (nI w)), (2, .int (nI nw))] := hl
  refine lv_aload_n hx hb dc_R_init_0 rfl (lv_at hl 0 rfl) ?_
  refine W.objInit hx hb hown (hw _ kw_128) (hw _ kw_78) (hw _ kw_79) rfl (by rw [hml]; exact hl.1) rfl dc_R_init_1 (Nat.le_of_ble_eq_true rfl) (Nat.le_of_ble_eq_true rfl) ?_
  refine W.eq (g2 := F0 m 4 ls []) rfl ?_
  refine lv_aload_n hx hb dc_R_init_4 rfl (lv_at hl 0 rfl) ?_
  refine lv_iconst (v := 0) hx hb dc_R_init_5 (by decide) ?_
  refine va_put (D := Y.1) (ci := 1) (v := .int 0) (ty := .int) (C := rn_R) (T := tf_R) (N := 5) hx hb hw wi_R ty_R ty_R_ok nm_R hown hK hP hD hS 0 rfl rfl 4 (by decide) (hw _ kw_136) (fun _ h9 => h9) rfl (by decide +kernel) rfl rfl (Nat.le_of_ble_eq_true rfl) dc_R_init_6 (fun H locs hP hD hS => ?_)
  have hP : va_P Y.1 vwCl [(h, .inr (1, [.int 0, .int 0, .null, .null, .int 0]))] H := hP
  have hD : va_D A [(h, .inr (1, [.int 0, .int 0, .null, .null, .int 0]))] := hD
  refine lv_aload_n hx hb dc_R_init_9 rfl (lv_at hl 0 rfl) ?_
  refine lv_iload_n hx hb dc_R_init_10 rfl (lv_at hl 1 rfl) ?_
  refine lv_iconst (v := 1) hx hb dc_R_init_11 (by decide) ?_
  refine va_mmax hx hb (by rw [hml]; exact hl.1.symm) hown (hw _ kw_129) (hw _ kw_130) (hw _ kw_64) (hw _ kw_131) (Nat.le_of_ble_eq_true rfl) (Nat.le_of_ble_eq_true rfl) (Nat.zero_le _) (Nat.zero_le _) dc_R_init_12 ?_
  rw [show (if nI w < 1 then 1 else nI w) = nI w from if_neg (nI_nlt (b := 1) (by omega) (by omega))]
  refine va_putF (D := Y.1) (ci := 1) (v := .int (nI w)) (ty := .int) (C := rn_R) (T := tf_R) (N := 5) hx hb hw wi_R ty_R ty_R_ok nm_R hown hK hP hD hS 0 rfl rfl 0 (by decide) (hw _ kw_132) (fun _ h9 => h9) rfl hin rfl (by decide +kernel) rfl rfl (Nat.le_of_ble_eq_true rfl) dc_R_init_15 (fun H locs hP hD hS => ?_)
  have hP : va_P Y.1 vwCl [(h, .inr (1, [.int (nI w), .int 0, .null, .null, .int 0]))] H := hP
  have hD : va_D A [(h, .inr (1, [.int (nI w), .int 0, .null, .null, .int 0]))] := hD
  refine lv_aload_n hx hb dc_R_init_18 rfl (lv_at hl 0 rfl) ?_
  refine lv_iload_n hx hb dc_R_init_19 rfl (lv_at hl 2 rfl) ?_
  refine lv_iconst (v := 1) hx hb dc_R_init_20 (by decide) ?_
  refine va_mmax hx hb (by rw [hml]; exact hl.1.symm) hown (hw _ kw_129) (hw _ kw_130) (hw _ kw_64) (hw _ kw_131) (Nat.le_of_ble_eq_true rfl) (Nat.le_of_ble_eq_true rfl) (Nat.zero_le _) (Nat.zero_le _) dc_R_init_21 ?_
  rw [show (if nI nw < 1 then 1 else nI nw) = nI nw from if_neg (nI_nlt (b := 1) (by omega) (by omega))]
  refine va_putF (D := Y.1) (ci := 1) (v := .int (nI nw)) (ty := .int) (C := rn_R) (T := tf_R) (N := 5) hx hb hw wi_R ty_R ty_R_ok nm_R hown hK hP hD hS 0 rfl rfl 1 (by decide) (hw _ kw_133) (fun _ h9 => h9) rfl hin rfl (by decide +kernel) rfl rfl (Nat.le_of_ble_eq_true rfl) dc_R_init_24 (fun H locs hP hD hS => ?_)
  have hP : va_P Y.1 vwCl [(h, .inr (1, [.int (nI w), .int (nI nw), .null, .null, .int 0]))] H := hP
  have hD : va_D A [(h, .inr (1, [.int (nI w), .int (nI nw), .null, .null, .int 0]))] := hD
  refine lv_aload_n hx hb dc_R_init_27 rfl (lv_at hl 0 rfl) ?_
  refine lv_iconst (v := 4) hx hb dc_R_init_28 (by decide) ?_
  refine lv_aload_n hx hb dc_R_init_29 rfl (lv_at hl 0 rfl) ?_
  refine va_get (D := Y.1) (ci := 1) (v := .int (nI w)) (C := rn_R) (T := tf_R) (N := 5) hx hb hw wi_R hown hK hP 0 rfl rfl 0 (by decide) (hw _ kw_132) (fun _ h9 => h9) rfl dc_R_init_30 ?_
  refine lv_imul hx hb dc_R_init_33 ?_
  rw [show 4 * (nI w) = nI (4 * w) from pk_mul 4 _]
  refine va_newa (D := Y.1) (ty := .int) (atype := .int) (a0 := (4 * w, .inl (fun _ => 0))) hx hb (hw _ kw_148) rfl hK hP hD hS hA (fun _ => rfl) (nI_pos (by omega)) (nI_clamp (by omega)) (by show 4 * w * 4 ≤ 536870912; omega) (by show 0 + 1 ≤ 2; decide) (by show 0 + 4 * w ≤ 4 * w + 4 * nw; omega) dc_R_init_34 (fun q1 cA H hK2 hP hD hS => ?_)
  have hcA : cA = Y.2.1.2.1 := Option.some.inj ((va_nm_int (hK2.2 3 _ rfl).2).symm.trans (va_nm_int (hK.2 1 _ rfl).2))
  subst hcA
  have hP : va_P Y.1 vwCl [(h, .inr (1, [.int (nI w), .int (nI nw), .null, .null, .int 0])), (q1, .inl (Y.2.1.2.1, 4 * w, .inl (fun _ => 0)))] H := hP
  have hD : va_D A [(h, .inr (1, [.int (nI w), .int (nI nw), .null, .null, .int 0])), (q1, .inl (Y.2.1.2.1, 4 * w, .inl (fun _ => 0)))] := hD
  refine W.widen (k := 1) (n := 4 * w) (Nat.le_refl _) (Nat.le_of_eq (Nat.zero_add _)) ?_
  refine va_put (D := Y.1) (ci := 1) (v := .ref q1) (ty := .array .int) (C := rn_R) (T := tf_R) (N := 5) hx hb hw wi_R ty_R ty_R_ok nm_R hown hK hP hD hS 0 rfl rfl 2 (by decide) (hw _ kw_134) (fun _ h9 => h9) rfl (by decide +kernel) rfl rfl (Nat.le_of_ble_eq_true rfl) dc_R_init_36 (fun H locs hP hD hS => ?_)
  have hP : va_P Y.1 vwCl [(h, .inr (1, [.int (nI w), .int (nI nw), .ref q1, .null, .int 0])), (q1, .inl (Y.2.1.2.1, 4 * w, .inl (fun _ => 0)))] H := hP
  have hD : va_D A [(h, .inr (1, [.int (nI w), .int (nI nw), .ref q1, .null, .int 0])), (q1, .inl (Y.2.1.2.1, 4 * w, .inl (fun _ => 0)))] := hD
  refine lv_aload_n hx hb dc_R_init_39 rfl (lv_at hl 0 rfl) ?_
  refine lv_iconst (v := 4) hx hb dc_R_init_40 (by decide) ?_
  refine lv_aload_n hx hb dc_R_init_41 rfl (lv_at hl 0 rfl) ?_
  refine va_get (D := Y.1) (ci := 1) (v := .int (nI nw)) (C := rn_R) (T := tf_R) (N := 5) hx hb hw wi_R hown hK hP 0 rfl rfl 1 (by decide) (hw _ kw_133) (fun _ h9 => h9) rfl dc_R_init_42 ?_
  refine lv_imul hx hb dc_R_init_45 ?_
  rw [show 4 * (nI nw) = nI (4 * nw) from pk_mul 4 _]
  refine va_newa (D := Y.1) (ty := .long) (atype := .long) (a0 := (4 * nw, .inr (.inl (fun _ => 0)))) hx hb (hw _ kw_149) rfl hK hP hD hS hA (fun _ => rfl) (nI_pos (by omega)) (nI_clamp (by omega)) (by show 4 * nw * 8 ≤ 536870912; omega) (by show 1 + 1 ≤ 2; decide) (by show 4 * w + 4 * nw ≤ 4 * w + 4 * nw; omega) dc_R_init_46 (fun q2 cA H hK2 hP hD hS => ?_)
  have hcA : cA = Y.2.1.2.2 := Option.some.inj ((va_nm_long (hK2.2 3 _ rfl).2).symm.trans (va_nm_long (hK.2 2 _ rfl).2))
  subst hcA
  have hP : va_P Y.1 vwCl [(h, .inr (1, [.int (nI w), .int (nI nw), .ref q1, .null, .int 0])), (q1, .inl (Y.2.1.2.1, 4 * w, .inl (fun _ => 0))), (q2, .inl (Y.2.1.2.2, 4 * nw, .inr (.inl (fun _ => 0))))] H := hP
  have hD : va_D A [(h, .inr (1, [.int (nI w), .int (nI nw), .ref q1, .null, .int 0])), (q1, .inl (Y.2.1.2.1, 4 * w, .inl (fun _ => 0))), (q2, .inl (Y.2.1.2.2, 4 * nw, .inr (.inl (fun _ => 0))))] := hD
  refine va_put (D := Y.1) (ci := 1) (v := .ref q2) (ty := .array .long) (C := rn_R) (T := tf_R) (N := 5) hx hb hw wi_R ty_R ty_R_ok nm_R hown hK hP hD hS 0 rfl rfl 3 (by decide) (hw _ kw_135) (fun _ h9 => h9) rfl (by decide +kernel) rfl rfl (Nat.le_of_ble_eq_true rfl) dc_R_init_48 (fun H locs hP hD hS => ?_)
  have hP : va_P Y.1 vwCl [(h, .inr (1, [.int (nI w), .int (nI nw), .ref q1, .ref q2, .int 0])), (q1, .inl (Y.2.1.2.1, 4 * w, .inl (fun _ => 0))), (q2, .inl (Y.2.1.2.2, 4 * nw, .inr (.inl (fun _ => 0))))] H := hP
  have hD : va_D A [(h, .inr (1, [.int (nI w), .int (nI nw), .ref q1, .ref q2, .int 0])), (q1, .inl (Y.2.1.2.1, 4 * w, .inl (fun _ => 0))), (q2, .inl (Y.2.1.2.2, 4 * nw, .inr (.inl (fun _ => 0))))] := hD
  exact zz_vret (w1 := [(h, .inr (1, [.int (nI w), .int (nI nw), .ref q1, .ref q2, .int 0])), (q1, .inl (Y.2.1.2.1, 4 * w, .inl (fun _ => 0))), (q2, .inl (Y.2.1.2.2, 4 * nw, .inr (.inl (fun _ => 0))))]) hx hb hr hlocks hAe hP hD hS [0, 1, 2] rfl (by decide) ⟨q1, q2, fun _ => 0, fun _ => 0, rfl, hw1.1, hw1.2, hw2.1, hw2.2, Nat.le_refl _, Nat.zero_le _, by decide, fun i h => absurd h (Nat.not_lt_zero _)⟩ (Nat.le_refl _) (Nat.le_refl _) dc_R_init_51

set_option maxHeartbeats 4000000 in
set_option maxRecDepth 100000 in
theorem ct_P_init (l : Launch) (Y : zz_Y) (hp : Nat) (tx : Nat → Nat) (dnum : Nat → Nat → Int32) (dnam : Nat → Nat → Int64) (nnum : Nat → Nat → Int32) (nnam : Nat → Nat → Int64) : zz_V l Y yn_P_init bc_P_init 1 none { frames := 2, cells := 8, slots := 218, locals := 42 } [.ref hp] [(hp, .inr (0, [.null, .null, .null, .int 0, .int 0, .int 0, .int 0, .int 0, .int 0]))] (fun w1 => ∃ ht hd hn : Nat, zp_OK Y hp ht hd hn tx 64 0 0 0 0 0 (-1) 0 0 4 dnum dnam 0 4 nnum nnam 0 (-1) 0 (-1) (-1) 46 w1) := by
  intro sz
  refine zz_of (cc := bc_P_init) (maxL := 1) (ret := none) (by decide) (Nat.le_of_ble_eq_true rfl) ?_
  intro p e s m below meth c A ls hsz C0 hl
  subst hsz
  obtain ⟨hx, hb, hr, hml, hlocks, hin, hown, hw, hAe, hA, hK, hG, hP, hD, hS⟩ := C0
  have hown : s.vm.findClass "TwoLevelParser$Parser" = some m.cls := hown
  have hl : lv_has ls 1 [(0, .ref hp)] := hl
  refine lv_aload_n hx hb dc_P_init_0 rfl (lv_at hl 0 rfl) ?_
  refine W.objInit hx hb hown (hw _ kw_85) (hw _ kw_78) (hw _ kw_79) rfl (by rw [hml]; exact hl.1) rfl dc_P_init_1 (Nat.le_of_ble_eq_true rfl) (Nat.le_of_ble_eq_true rfl) ?_
  refine W.eq (g2 := F0 m 4 ls []) rfl ?_
  refine lv_aload_n hx hb dc_P_init_4 rfl (lv_at hl 0 rfl) ?_
  refine va_new (D := Y.1) (ci := 2) (fs := [.null, .int 0, .int 0, .int 0, .int 0, .long 0, .int 0, .int 0]) (C := rn_T) (T := tf_T) (N := 8) hx hb hw wi_T ty_T ty_T_ok hown (hw _ kw_86) (hw _ kw_87) (hw _ kw_62) hK hP hD hS hA rfl (fun j hj => by rcases (show j = 0 ∨ j = 1 ∨ j = 2 ∨ j = 3 ∨ j = 4 ∨ j = 5 ∨ j = 6 ∨ j = 7 by omega) with rfl | rfl | rfl | rfl | rfl | rfl | rfl | rfl <;> rfl) (Nat.le_of_ble_eq_true rfl) (Nat.le_of_ble_eq_true rfl) dc_P_init_5 (fun ht H hP hD hS => ?_)
  have hP : va_P Y.1 vwCl [(hp, .inr (0, [.null, .null, .null, .int 0, .int 0, .int 0, .int 0, .int 0, .int 0])), (ht, .inr (2, [.null, .int 0, .int 0, .int 0, .int 0, .long 0, .int 0, .int 0]))] H := hP
  have hD : va_D A [(hp, .inr (0, [.null, .null, .null, .int 0, .int 0, .int 0, .int 0, .int 0, .int 0])), (ht, .inr (2, [.null, .int 0, .int 0, .int 0, .int 0, .long 0, .int 0, .int 0]))] := hD
  refine W.widen (k := 1) (n := 8) (Nat.le_refl _) (Nat.le_refl _) ?_
  refine lv_dup hx hb dc_P_init_8 rfl ?_
  refine zz_goV (wc := [(ht, .inr (2, [.null, .int 0, .int 0, .int 0, .int 0, .long 0, .int 0, .int 0]))]) (wr := [(hp, .inr (0, [.null, .null, .null, .int 0, .int 0, .int 0, .int 0, .int 0, .int 0]))]) (va_runIN (b := ht) (As := []) (rest := [.ref ht, .ref hp]) ⟨hx, hb, hml, hown, hw⟩ (ct_T_init l Y ht tx _) ⟨va_cnB 0 hw (zz_gI kw_90) rfl rfl rfl hG.2.2.1 (hw _ kw_62) (by decide +kernel) ⟨Nat.le_of_ble_eq_true rfl, Nat.le_of_ble_eq_true rfl⟩, rfl, hw _ kw_89⟩ (zz_preS hK hG hA hP hD hS [1] rfl (by decide)) rfl rfl hl.1 rfl (lv_room (Nat.le_of_ble_eq_true rfl)) dc_P_init_9 ⟨Nat.le_of_ble_eq_true rfl, Nat.le_of_ble_eq_true rfl⟩) hA hP hD hS [1] [0] rfl rfl (by decide) (by decide) (fun w1 H locs hw1 hP hD hS => ?_)
  obtain ⟨tb, fB, rfl, okT⟩ := hw1
  have hP : va_P Y.1 vwCl [(hp, .inr (0, [.null, .null, .null, .int 0, .int 0, .int 0, .int 0, .int 0, .int 0])), (ht, .inr (2, [.ref tb, .int (nI 0), .int (nI 0), .int 0, .int (nI 0), .long 0, .int (-1), .int 0])), (tb, .inl (Y.2.1.1, 64, .inl fB))] H := hP
  have hD : va_D A [(hp, .inr (0, [.null, .null, .null, .int 0, .int 0, .int 0, .int 0, .int 0, .int 0])), (ht, .inr (2, [.ref tb, .int (nI 0), .int (nI 0), .int 0, .int (nI 0), .long 0, .int (-1), .int 0])), (tb, .inl (Y.2.1.1, 64, .inl fB))] := hD
  refine W.widen (k := 2) (n := 72) (Nat.le_refl _) (Nat.le_refl _) ?_
  refine va_putF (D := Y.1) (ci := 0) (v := .ref ht) (ty := .object "TwoLevelParser$Text") (C := rn_P) (T := tf_P) (N := 9) hx hb hw wi_P ty_P ty_P_ok nm_P hown hK hP hD hS 0 rfl rfl 0 (by decide) (hw _ kw_150) (fun _ h9 => h9) rfl hin rfl (by decide +kernel) rfl rfl (Nat.le_of_ble_eq_true rfl) dc_P_init_12 (fun H locs hP hD hS => ?_)
  have hP : va_P Y.1 vwCl [(hp, .inr (0, [.ref ht, .null, .null, .int 0, .int 0, .int 0, .int 0, .int 0, .int 0])), (ht, .inr (2, [.ref tb, .int (nI 0), .int (nI 0), .int 0, .int (nI 0), .long 0, .int (-1), .int 0])), (tb, .inl (Y.2.1.1, 64, .inl fB))] H := hP
  have hD : va_D A [(hp, .inr (0, [.ref ht, .null, .null, .int 0, .int 0, .int 0, .int 0, .int 0, .int 0])), (ht, .inr (2, [.ref tb, .int (nI 0), .int (nI 0), .int 0, .int (nI 0), .long 0, .int (-1), .int 0])), (tb, .inl (Y.2.1.1, 64, .inl fB))] := hD
  refine lv_aload_n hx hb dc_P_init_15 rfl (lv_at hl 0 rfl) ?_
  refine va_new (D := Y.1) (ci := 1) (fs := [.int 0, .int 0, .null, .null, .int 0]) (C := rn_R) (T := tf_R) (N := 5) hx hb hw wi_R ty_R ty_R_ok hown (hw _ kw_123) (hw _ kw_124) (hw _ kw_63) hK hP hD hS hA rfl (fun j hj => by rcases (show j = 0 ∨ j = 1 ∨ j = 2 ∨ j = 3 ∨ j = 4 by omega) with rfl | rfl | rfl | rfl | rfl <;> rfl) (Nat.le_of_ble_eq_true rfl) (Nat.le_of_ble_eq_true rfl) dc_P_init_16 (fun hd H hP hD hS => ?_)
  have hP : va_P Y.1 vwCl [(hp, .inr (0, [.ref ht, .null, .null, .int 0, .int 0, .int 0, .int 0, .int 0, .int 0])), (ht, .inr (2, [.ref tb, .int (nI 0), .int (nI 0), .int 0, .int (nI 0), .long 0, .int (-1), .int 0])), (tb, .inl (Y.2.1.1, 64, .inl fB)), (hd, .inr (1, [.int 0, .int 0, .null, .null, .int 0]))] H := hP
  have hD : va_D A [(hp, .inr (0, [.ref ht, .null, .null, .int 0, .int 0, .int 0, .int 0, .int 0, .int 0])), (ht, .inr (2, [.ref tb, .int (nI 0), .int (nI 0), .int 0, .int (nI 0), .long 0, .int (-1), .int 0])), (tb, .inl (Y.2.1.1, 64, .inl fB)), (hd, .inr (1, [.int 0, .int 0, .null, .null, .int 0]))] := hD
  refine W.widen (k := 3) (n := 77) (Nat.le_refl _) (Nat.le_refl _) ?_
  refine lv_dup hx hb dc_P_init_19 rfl ?_
  refine lv_bipush (v := 13) hx hb dc_P_init_20 (by decide) ?_
  refine lv_bipush (v := 9) hx hb dc_P_init_22 (by decide) ?_
  refine zz_goV (wc := [(hd, .inr (1, [.int 0, .int 0, .null, .null, .int 0]))]) (wr := [(hp, .inr (0, [.ref ht, .null, .null, .int 0, .int 0, .int 0, .int 0, .int 0, .int 0])), (ht, .inr (2, [.ref tb, .int (nI 0), .int (nI 0), .int 0, .int (nI 0), .long 0, .int (-1), .int 0])), (tb, .inl (Y.2.1.1, 64, .inl fB))]) (va_runI (b := hd) (As := [.int (nI 13), .int (nI 9)]) (rest := [.ref hd, .ref hp]) ⟨hx, hb, hml, hown, hw⟩ (ct_R_init l Y hd 13 9 (by decide) (by decide) dnum dnam _) (cwI 2 hw (zz_gI kw_127) rfl rfl rfl (hw _ kw_63) (hw _ kw_125) (hw _ kw_126) rfl (by decide +kernel) ⟨Nat.le_of_ble_eq_true rfl, Nat.le_of_ble_eq_true rfl⟩) (zz_preS hK hG hA hP hD hS [3] rfl (by decide)) rfl rfl hl.1 rfl (lv_room (Nat.le_of_ble_eq_true rfl)) dc_P_init_24 ⟨Nat.le_of_ble_eq_true rfl, Nat.le_of_ble_eq_true rfl⟩) hA hP hD hS [3] [0, 1, 2] rfl rfl (by decide) (by decide) (fun w1 H locs hw1 hP hD hS => ?_)
  obtain ⟨d1, d2, fD, gD, rfl, okD⟩ := hw1
  have hP : va_P Y.1 vwCl [(hp, .inr (0, [.ref ht, .null, .null, .int 0, .int 0, .int 0, .int 0, .int 0, .int 0])), (ht, .inr (2, [.ref tb, .int (nI 0), .int (nI 0), .int 0, .int (nI 0), .long 0, .int (-1), .int 0])), (tb, .inl (Y.2.1.1, 64, .inl fB)), (hd, .inr (1, [.int (nI 13), .int (nI 9), .ref d1, .ref d2, .int (nI 0)])), (d1, .inl (Y.2.1.2.1, 4 * 13, .inl fD)), (d2, .inl (Y.2.1.2.2, 4 * 9, .inr (.inl gD)))] H := hP
  have hD : va_D A [(hp, .inr (0, [.ref ht, .null, .null, .int 0, .int 0, .int 0, .int 0, .int 0, .int 0])), (ht, .inr (2, [.ref tb, .int (nI 0), .int (nI 0), .int 0, .int (nI 0), .long 0, .int (-1), .int 0])), (tb, .inl (Y.2.1.1, 64, .inl fB)), (hd, .inr (1, [.int (nI 13), .int (nI 9), .ref d1, .ref d2, .int (nI 0)])), (d1, .inl (Y.2.1.2.1, 4 * 13, .inl fD)), (d2, .inl (Y.2.1.2.2, 4 * 9, .inr (.inl gD)))] := hD
  refine W.widen (k := 5) (n := 165) (Nat.le_refl _) (Nat.le_refl _) ?_
  refine va_putF (D := Y.1) (ci := 0) (v := .ref hd) (ty := .object "TwoLevelParser$Records") (C := rn_P) (T := tf_P) (N := 9) hx hb hw wi_P ty_P ty_P_ok nm_P hown hK hP hD hS 0 rfl rfl 1 (by decide) (hw _ kw_152) (fun _ h9 => h9) rfl hin rfl (by decide +kernel) rfl rfl (Nat.le_of_ble_eq_true rfl) dc_P_init_27 (fun H locs hP hD hS => ?_)
  have hP : va_P Y.1 vwCl [(hp, .inr (0, [.ref ht, .ref hd, .null, .int 0, .int 0, .int 0, .int 0, .int 0, .int 0])), (ht, .inr (2, [.ref tb, .int (nI 0), .int (nI 0), .int 0, .int (nI 0), .long 0, .int (-1), .int 0])), (tb, .inl (Y.2.1.1, 64, .inl fB)), (hd, .inr (1, [.int (nI 13), .int (nI 9), .ref d1, .ref d2, .int (nI 0)])), (d1, .inl (Y.2.1.2.1, 4 * 13, .inl fD)), (d2, .inl (Y.2.1.2.2, 4 * 9, .inr (.inl gD)))] H := hP
  have hD : va_D A [(hp, .inr (0, [.ref ht, .ref hd, .null, .int 0, .int 0, .int 0, .int 0, .int 0, .int 0])), (ht, .inr (2, [.ref tb, .int (nI 0), .int (nI 0), .int 0, .int (nI 0), .long 0, .int (-1), .int 0])), (tb, .inl (Y.2.1.1, 64, .inl fB)), (hd, .inr (1, [.int (nI 13), .int (nI 9), .ref d1, .ref d2, .int (nI 0)])), (d1, .inl (Y.2.1.2.1, 4 * 13, .inl fD)), (d2, .inl (Y.2.1.2.2, 4 * 9, .inr (.inl gD)))] := hD
  refine lv_aload_n hx hb dc_P_init_30 rfl (lv_at hl 0 rfl) ?_
  refine va_new (D := Y.1) (ci := 1) (fs := [.int 0, .int 0, .null, .null, .int 0]) (C := rn_R) (T := tf_R) (N := 5) hx hb hw wi_R ty_R ty_R_ok hown (hw _ kw_123) (hw _ kw_124) (hw _ kw_63) hK hP hD hS hA rfl (fun j hj => by rcases (show j = 0 ∨ j = 1 ∨ j = 2 ∨ j = 3 ∨ j = 4 by omega) with rfl | rfl | rfl | rfl | rfl <;> rfl) (Nat.le_of_ble_eq_true rfl) (Nat.le_of_ble_eq_true rfl) dc_P_init_31 (fun hn H hP hD hS => ?_)
  have hP : va_P Y.1 vwCl [(hp, .inr (0, [.ref ht, .ref hd, .null, .int 0, .int 0, .int 0, .int 0, .int 0, .int 0])), (ht, .inr (2, [.ref tb, .int (nI 0), .int (nI 0), .int 0, .int (nI 0), .long 0, .int (-1), .int 0])), (tb, .inl (Y.2.1.1, 64, .inl fB)), (hd, .inr (1, [.int (nI 13), .int (nI 9), .ref d1, .ref d2, .int (nI 0)])), (d1, .inl (Y.2.1.2.1, 4 * 13, .inl fD)), (d2, .inl (Y.2.1.2.2, 4 * 9, .inr (.inl gD))), (hn, .inr (1, [.int 0, .int 0, .null, .null, .int 0]))] H := hP
  have hD : va_D A [(hp, .inr (0, [.ref ht, .ref hd, .null, .int 0, .int 0, .int 0, .int 0, .int 0, .int 0])), (ht, .inr (2, [.ref tb, .int (nI 0), .int (nI 0), .int 0, .int (nI 0), .long 0, .int (-1), .int 0])), (tb, .inl (Y.2.1.1, 64, .inl fB)), (hd, .inr (1, [.int (nI 13), .int (nI 9), .ref d1, .ref d2, .int (nI 0)])), (d1, .inl (Y.2.1.2.1, 4 * 13, .inl fD)), (d2, .inl (Y.2.1.2.2, 4 * 9, .inr (.inl gD))), (hn, .inr (1, [.int 0, .int 0, .null, .null, .int 0]))] := hD
  refine W.widen (k := 6) (n := 170) (Nat.le_refl _) (Nat.le_refl _) ?_
  refine lv_dup hx hb dc_P_init_34 rfl ?_
  refine lv_bipush (v := 10) hx hb dc_P_init_35 (by decide) ?_
  refine lv_iconst (v := 2) hx hb dc_P_init_37 (by decide) ?_
  refine zz_goV (wc := [(hn, .inr (1, [.int 0, .int 0, .null, .null, .int 0]))]) (wr := [(hp, .inr (0, [.ref ht, .ref hd, .null, .int 0, .int 0, .int 0, .int 0, .int 0, .int 0])), (ht, .inr (2, [.ref tb, .int (nI 0), .int (nI 0), .int 0, .int (nI 0), .long 0, .int (-1), .int 0])), (tb, .inl (Y.2.1.1, 64, .inl fB)), (hd, .inr (1, [.int (nI 13), .int (nI 9), .ref d1, .ref d2, .int (nI 0)])), (d1, .inl (Y.2.1.2.1, 4 * 13, .inl fD)), (d2, .inl (Y.2.1.2.2, 4 * 9, .inr (.inl gD)))]) (va_runI (b := hn) (As := [.int (nI 10), .int (nI 2)]) (rest := [.ref hn, .ref hp]) ⟨hx, hb, hml, hown, hw⟩ (ct_R_init l Y hn 10 2 (by decide) (by decide) nnum nnam _) (cwI 2 hw (zz_gI kw_127) rfl rfl rfl (hw _ kw_63) (hw _ kw_125) (hw _ kw_126) rfl (by decide +kernel) ⟨Nat.le_of_ble_eq_true rfl, Nat.le_of_ble_eq_true rfl⟩) (zz_preS hK hG hA hP hD hS [6] rfl (by decide)) rfl rfl hl.1 rfl (lv_room (Nat.le_of_ble_eq_true rfl)) dc_P_init_38 ⟨Nat.le_of_ble_eq_true rfl, Nat.le_of_ble_eq_true rfl⟩) hA hP hD hS [6] [0, 1, 2, 3, 4, 5] rfl rfl (by decide) (by decide) (fun w1 H locs hw1 hP hD hS => ?_)
  obtain ⟨n1, n2, fN, gN, rfl, okN⟩ := hw1
  have hP : va_P Y.1 vwCl [(hp, .inr (0, [.ref ht, .ref hd, .null, .int 0, .int 0, .int 0, .int 0, .int 0, .int 0])), (ht, .inr (2, [.ref tb, .int (nI 0), .int (nI 0), .int 0, .int (nI 0), .long 0, .int (-1), .int 0])), (tb, .inl (Y.2.1.1, 64, .inl fB)), (hd, .inr (1, [.int (nI 13), .int (nI 9), .ref d1, .ref d2, .int (nI 0)])), (d1, .inl (Y.2.1.2.1, 4 * 13, .inl fD)), (d2, .inl (Y.2.1.2.2, 4 * 9, .inr (.inl gD))), (hn, .inr (1, [.int (nI 10), .int (nI 2), .ref n1, .ref n2, .int (nI 0)])), (n1, .inl (Y.2.1.2.1, 4 * 10, .inl fN)), (n2, .inl (Y.2.1.2.2, 4 * 2, .inr (.inl gN)))] H := hP
  have hD : va_D A [(hp, .inr (0, [.ref ht, .ref hd, .null, .int 0, .int 0, .int 0, .int 0, .int 0, .int 0])), (ht, .inr (2, [.ref tb, .int (nI 0), .int (nI 0), .int 0, .int (nI 0), .long 0, .int (-1), .int 0])), (tb, .inl (Y.2.1.1, 64, .inl fB)), (hd, .inr (1, [.int (nI 13), .int (nI 9), .ref d1, .ref d2, .int (nI 0)])), (d1, .inl (Y.2.1.2.1, 4 * 13, .inl fD)), (d2, .inl (Y.2.1.2.2, 4 * 9, .inr (.inl gD))), (hn, .inr (1, [.int (nI 10), .int (nI 2), .ref n1, .ref n2, .int (nI 0)])), (n1, .inl (Y.2.1.2.1, 4 * 10, .inl fN)), (n2, .inl (Y.2.1.2.2, 4 * 2, .inr (.inl gN)))] := hD
  refine W.widen (k := 8) (n := 218) (Nat.le_refl _) (Nat.le_refl _) ?_
  refine va_putF (D := Y.1) (ci := 0) (v := .ref hn) (ty := .object "TwoLevelParser$Records") (C := rn_P) (T := tf_P) (N := 9) hx hb hw wi_P ty_P ty_P_ok nm_P hown hK hP hD hS 0 rfl rfl 2 (by decide) (hw _ kw_154) (fun _ h9 => h9) rfl hin rfl (by decide +kernel) rfl rfl (Nat.le_of_ble_eq_true rfl) dc_P_init_41 (fun H locs hP hD hS => ?_)
  have hP : va_P Y.1 vwCl [(hp, .inr (0, [.ref ht, .ref hd, .ref hn, .int 0, .int 0, .int 0, .int 0, .int 0, .int 0])), (ht, .inr (2, [.ref tb, .int (nI 0), .int (nI 0), .int 0, .int (nI 0), .long 0, .int (-1), .int 0])), (tb, .inl (Y.2.1.1, 64, .inl fB)), (hd, .inr (1, [.int (nI 13), .int (nI 9), .ref d1, .ref d2, .int (nI 0)])), (d1, .inl (Y.2.1.2.1, 4 * 13, .inl fD)), (d2, .inl (Y.2.1.2.2, 4 * 9, .inr (.inl gD))), (hn, .inr (1, [.int (nI 10), .int (nI 2), .ref n1, .ref n2, .int (nI 0)])), (n1, .inl (Y.2.1.2.1, 4 * 10, .inl fN)), (n2, .inl (Y.2.1.2.2, 4 * 2, .inr (.inl gN)))] H := hP
  have hD : va_D A [(hp, .inr (0, [.ref ht, .ref hd, .ref hn, .int 0, .int 0, .int 0, .int 0, .int 0, .int 0])), (ht, .inr (2, [.ref tb, .int (nI 0), .int (nI 0), .int 0, .int (nI 0), .long 0, .int (-1), .int 0])), (tb, .inl (Y.2.1.1, 64, .inl fB)), (hd, .inr (1, [.int (nI 13), .int (nI 9), .ref d1, .ref d2, .int (nI 0)])), (d1, .inl (Y.2.1.2.1, 4 * 13, .inl fD)), (d2, .inl (Y.2.1.2.2, 4 * 9, .inr (.inl gD))), (hn, .inr (1, [.int (nI 10), .int (nI 2), .ref n1, .ref n2, .int (nI 0)])), (n1, .inl (Y.2.1.2.1, 4 * 10, .inl fN)), (n2, .inl (Y.2.1.2.2, 4 * 2, .inr (.inl gN)))] := hD
  refine lv_aload_n hx hb dc_P_init_44 rfl (lv_at hl 0 rfl) ?_
  refine lv_iconst (v := 0) hx hb dc_P_init_45 (by decide) ?_
  refine va_put (D := Y.1) (ci := 0) (v := .int 0) (ty := .int) (C := rn_P) (T := tf_P) (N := 9) hx hb hw wi_P ty_P ty_P_ok nm_P hown hK hP hD hS 0 rfl rfl 3 (by decide) (hw _ kw_156) (fun _ h9 => h9) rfl (by decide +kernel) rfl rfl (Nat.le_of_ble_eq_true rfl) dc_P_init_46 (fun H locs hP hD hS => ?_)
  have hP : va_P Y.1 vwCl [(hp, .inr (0, [.ref ht, .ref hd, .ref hn, .int 0, .int 0, .int 0, .int 0, .int 0, .int 0])), (ht, .inr (2, [.ref tb, .int (nI 0), .int (nI 0), .int 0, .int (nI 0), .long 0, .int (-1), .int 0])), (tb, .inl (Y.2.1.1, 64, .inl fB)), (hd, .inr (1, [.int (nI 13), .int (nI 9), .ref d1, .ref d2, .int (nI 0)])), (d1, .inl (Y.2.1.2.1, 4 * 13, .inl fD)), (d2, .inl (Y.2.1.2.2, 4 * 9, .inr (.inl gD))), (hn, .inr (1, [.int (nI 10), .int (nI 2), .ref n1, .ref n2, .int (nI 0)])), (n1, .inl (Y.2.1.2.1, 4 * 10, .inl fN)), (n2, .inl (Y.2.1.2.2, 4 * 2, .inr (.inl gN)))] H := hP
  have hD : va_D A [(hp, .inr (0, [.ref ht, .ref hd, .ref hn, .int 0, .int 0, .int 0, .int 0, .int 0, .int 0])), (ht, .inr (2, [.ref tb, .int (nI 0), .int (nI 0), .int 0, .int (nI 0), .long 0, .int (-1), .int 0])), (tb, .inl (Y.2.1.1, 64, .inl fB)), (hd, .inr (1, [.int (nI 13), .int (nI 9), .ref d1, .ref d2, .int (nI 0)])), (d1, .inl (Y.2.1.2.1, 4 * 13, .inl fD)), (d2, .inl (Y.2.1.2.2, 4 * 9, .inr (.inl gD))), (hn, .inr (1, [.int (nI 10), .int (nI 2), .ref n1, .ref n2, .int (nI 0)])), (n1, .inl (Y.2.1.2.1, 4 * 10, .inl fN)), (n2, .inl (Y.2.1.2.2, 4 * 2, .inr (.inl gN)))] := hD
  refine lv_aload_n hx hb dc_P_init_49 rfl (lv_at hl 0 rfl) ?_
  refine lv_iconst (v := (-1)) hx hb dc_P_init_50 (by decide) ?_
  refine va_put (D := Y.1) (ci := 0) (v := .int (-1)) (ty := .int) (C := rn_P) (T := tf_P) (N := 9) hx hb hw wi_P ty_P ty_P_ok nm_P hown hK hP hD hS 0 rfl rfl 4 (by decide) (hw _ kw_158) (fun _ h9 => h9) rfl (by decide +kernel) rfl rfl (Nat.le_of_ble_eq_true rfl) dc_P_init_51 (fun H locs hP hD hS => ?_)
  have hP : va_P Y.1 vwCl [(hp, .inr (0, [.ref ht, .ref hd, .ref hn, .int 0, .int (-1), .int 0, .int 0, .int 0, .int 0])), (ht, .inr (2, [.ref tb, .int (nI 0), .int (nI 0), .int 0, .int (nI 0), .long 0, .int (-1), .int 0])), (tb, .inl (Y.2.1.1, 64, .inl fB)), (hd, .inr (1, [.int (nI 13), .int (nI 9), .ref d1, .ref d2, .int (nI 0)])), (d1, .inl (Y.2.1.2.1, 4 * 13, .inl fD)), (d2, .inl (Y.2.1.2.2, 4 * 9, .inr (.inl gD))), (hn, .inr (1, [.int (nI 10), .int (nI 2), .ref n1, .ref n2, .int (nI 0)])), (n1, .inl (Y.2.1.2.1, 4 * 10, .inl fN)), (n2, .inl (Y.2.1.2.2, 4 * 2, .inr (.inl gN)))] H := hP
  have hD : va_D A [(hp, .inr (0, [.ref ht, .ref hd, .ref hn, .int 0, .int (-1), .int 0, .int 0, .int 0, .int 0])), (ht, .inr (2, [.ref tb, .int (nI 0), .int (nI 0), .int 0, .int (nI 0), .long 0, .int (-1), .int 0])), (tb, .inl (Y.2.1.1, 64, .inl fB)), (hd, .inr (1, [.int (nI 13), .int (nI 9), .ref d1, .ref d2, .int (nI 0)])), (d1, .inl (Y.2.1.2.1, 4 * 13, .inl fD)), (d2, .inl (Y.2.1.2.2, 4 * 9, .inr (.inl gD))), (hn, .inr (1, [.int (nI 10), .int (nI 2), .ref n1, .ref n2, .int (nI 0)])), (n1, .inl (Y.2.1.2.1, 4 * 10, .inl fN)), (n2, .inl (Y.2.1.2.2, 4 * 2, .inr (.inl gN)))] := hD
  refine lv_aload_n hx hb dc_P_init_54 rfl (lv_at hl 0 rfl) ?_
  refine lv_iconst (v := 0) hx hb dc_P_init_55 (by decide) ?_
  refine va_put (D := Y.1) (ci := 0) (v := .int 0) (ty := .int) (C := rn_P) (T := tf_P) (N := 9) hx hb hw wi_P ty_P ty_P_ok nm_P hown hK hP hD hS 0 rfl rfl 5 (by decide) (hw _ kw_160) (fun _ h9 => h9) rfl (by decide +kernel) rfl rfl (Nat.le_of_ble_eq_true rfl) dc_P_init_56 (fun H locs hP hD hS => ?_)
  have hP : va_P Y.1 vwCl [(hp, .inr (0, [.ref ht, .ref hd, .ref hn, .int 0, .int (-1), .int 0, .int 0, .int 0, .int 0])), (ht, .inr (2, [.ref tb, .int (nI 0), .int (nI 0), .int 0, .int (nI 0), .long 0, .int (-1), .int 0])), (tb, .inl (Y.2.1.1, 64, .inl fB)), (hd, .inr (1, [.int (nI 13), .int (nI 9), .ref d1, .ref d2, .int (nI 0)])), (d1, .inl (Y.2.1.2.1, 4 * 13, .inl fD)), (d2, .inl (Y.2.1.2.2, 4 * 9, .inr (.inl gD))), (hn, .inr (1, [.int (nI 10), .int (nI 2), .ref n1, .ref n2, .int (nI 0)])), (n1, .inl (Y.2.1.2.1, 4 * 10, .inl fN)), (n2, .inl (Y.2.1.2.2, 4 * 2, .inr (.inl gN)))] H := hP
  have hD : va_D A [(hp, .inr (0, [.ref ht, .ref hd, .ref hn, .int 0, .int (-1), .int 0, .int 0, .int 0, .int 0])), (ht, .inr (2, [.ref tb, .int (nI 0), .int (nI 0), .int 0, .int (nI 0), .long 0, .int (-1), .int 0])), (tb, .inl (Y.2.1.1, 64, .inl fB)), (hd, .inr (1, [.int (nI 13), .int (nI 9), .ref d1, .ref d2, .int (nI 0)])), (d1, .inl (Y.2.1.2.1, 4 * 13, .inl fD)), (d2, .inl (Y.2.1.2.2, 4 * 9, .inr (.inl gD))), (hn, .inr (1, [.int (nI 10), .int (nI 2), .ref n1, .ref n2, .int (nI 0)])), (n1, .inl (Y.2.1.2.1, 4 * 10, .inl fN)), (n2, .inl (Y.2.1.2.2, 4 * 2, .inr (.inl gN)))] := hD
  refine lv_aload_n hx hb dc_P_init_59 rfl (lv_at hl 0 rfl) ?_
  refine lv_iconst (v := (-1)) hx hb dc_P_init_60 (by decide) ?_
  refine va_put (D := Y.1) (ci := 0) (v := .int (-1)) (ty := .int) (C := rn_P) (T := tf_P) (N := 9) hx hb hw wi_P ty_P ty_P_ok nm_P hown hK hP hD hS 0 rfl rfl 6 (by decide) (hw _ kw_161) (fun _ h9 => h9) rfl (by decide +kernel) rfl rfl (Nat.le_of_ble_eq_true rfl) dc_P_init_61 (fun H locs hP hD hS => ?_)
  have hP : va_P Y.1 vwCl [(hp, .inr (0, [.ref ht, .ref hd, .ref hn, .int 0, .int (-1), .int 0, .int (-1), .int 0, .int 0])), (ht, .inr (2, [.ref tb, .int (nI 0), .int (nI 0), .int 0, .int (nI 0), .long 0, .int (-1), .int 0])), (tb, .inl (Y.2.1.1, 64, .inl fB)), (hd, .inr (1, [.int (nI 13), .int (nI 9), .ref d1, .ref d2, .int (nI 0)])), (d1, .inl (Y.2.1.2.1, 4 * 13, .inl fD)), (d2, .inl (Y.2.1.2.2, 4 * 9, .inr (.inl gD))), (hn, .inr (1, [.int (nI 10), .int (nI 2), .ref n1, .ref n2, .int (nI 0)])), (n1, .inl (Y.2.1.2.1, 4 * 10, .inl fN)), (n2, .inl (Y.2.1.2.2, 4 * 2, .inr (.inl gN)))] H := hP
  have hD : va_D A [(hp, .inr (0, [.ref ht, .ref hd, .ref hn, .int 0, .int (-1), .int 0, .int (-1), .int 0, .int 0])), (ht, .inr (2, [.ref tb, .int (nI 0), .int (nI 0), .int 0, .int (nI 0), .long 0, .int (-1), .int 0])), (tb, .inl (Y.2.1.1, 64, .inl fB)), (hd, .inr (1, [.int (nI 13), .int (nI 9), .ref d1, .ref d2, .int (nI 0)])), (d1, .inl (Y.2.1.2.1, 4 * 13, .inl fD)), (d2, .inl (Y.2.1.2.2, 4 * 9, .inr (.inl gD))), (hn, .inr (1, [.int (nI 10), .int (nI 2), .ref n1, .ref n2, .int (nI 0)])), (n1, .inl (Y.2.1.2.1, 4 * 10, .inl fN)), (n2, .inl (Y.2.1.2.2, 4 * 2, .inr (.inl gN)))] := hD
  refine lv_aload_n hx hb dc_P_init_64 rfl (lv_at hl 0 rfl) ?_
  refine lv_iconst (v := (-1)) hx hb dc_P_init_65 (by decide) ?_
  refine va_put (D := Y.1) (ci := 0) (v := .int (-1)) (ty := .int) (C := rn_P) (T := tf_P) (N := 9) hx hb hw wi_P ty_P ty_P_ok nm_P hown hK hP hD hS 0 rfl rfl 7 (by decide) (hw _ kw_162) (fun _ h9 => h9) rfl (by decide +kernel) rfl rfl (Nat.le_of_ble_eq_true rfl) dc_P_init_66 (fun H locs hP hD hS => ?_)
  have hP : va_P Y.1 vwCl [(hp, .inr (0, [.ref ht, .ref hd, .ref hn, .int 0, .int (-1), .int 0, .int (-1), .int (-1), .int 0])), (ht, .inr (2, [.ref tb, .int (nI 0), .int (nI 0), .int 0, .int (nI 0), .long 0, .int (-1), .int 0])), (tb, .inl (Y.2.1.1, 64, .inl fB)), (hd, .inr (1, [.int (nI 13), .int (nI 9), .ref d1, .ref d2, .int (nI 0)])), (d1, .inl (Y.2.1.2.1, 4 * 13, .inl fD)), (d2, .inl (Y.2.1.2.2, 4 * 9, .inr (.inl gD))), (hn, .inr (1, [.int (nI 10), .int (nI 2), .ref n1, .ref n2, .int (nI 0)])), (n1, .inl (Y.2.1.2.1, 4 * 10, .inl fN)), (n2, .inl (Y.2.1.2.2, 4 * 2, .inr (.inl gN)))] H := hP
  have hD : va_D A [(hp, .inr (0, [.ref ht, .ref hd, .ref hn, .int 0, .int (-1), .int 0, .int (-1), .int (-1), .int 0])), (ht, .inr (2, [.ref tb, .int (nI 0), .int (nI 0), .int 0, .int (nI 0), .long 0, .int (-1), .int 0])), (tb, .inl (Y.2.1.1, 64, .inl fB)), (hd, .inr (1, [.int (nI 13), .int (nI 9), .ref d1, .ref d2, .int (nI 0)])), (d1, .inl (Y.2.1.2.1, 4 * 13, .inl fD)), (d2, .inl (Y.2.1.2.2, 4 * 9, .inr (.inl gD))), (hn, .inr (1, [.int (nI 10), .int (nI 2), .ref n1, .ref n2, .int (nI 0)])), (n1, .inl (Y.2.1.2.1, 4 * 10, .inl fN)), (n2, .inl (Y.2.1.2.2, 4 * 2, .inr (.inl gN)))] := hD
  refine lv_aload_n hx hb dc_P_init_69 rfl (lv_at hl 0 rfl) ?_
  refine lv_bipush (v := 46) hx hb dc_P_init_70 (by decide) ?_
  refine va_put (D := Y.1) (ci := 0) (v := .int 46) (ty := .char) (C := rn_P) (T := tf_P) (N := 9) hx hb hw wi_P ty_P ty_P_ok nm_P hown hK hP hD hS 0 rfl rfl 8 (by decide) (hw _ kw_163) (fun _ h9 => h9) rfl (by decide +kernel) rfl rfl (Nat.le_of_ble_eq_true rfl) dc_P_init_72 (fun H locs hP hD hS => ?_)
  have hP : va_P Y.1 vwCl [(hp, .inr (0, [.ref ht, .ref hd, .ref hn, .int 0, .int (-1), .int 0, .int (-1), .int (-1), .int 46])), (ht, .inr (2, [.ref tb, .int (nI 0), .int (nI 0), .int 0, .int (nI 0), .long 0, .int (-1), .int 0])), (tb, .inl (Y.2.1.1, 64, .inl fB)), (hd, .inr (1, [.int (nI 13), .int (nI 9), .ref d1, .ref d2, .int (nI 0)])), (d1, .inl (Y.2.1.2.1, 4 * 13, .inl fD)), (d2, .inl (Y.2.1.2.2, 4 * 9, .inr (.inl gD))), (hn, .inr (1, [.int (nI 10), .int (nI 2), .ref n1, .ref n2, .int (nI 0)])), (n1, .inl (Y.2.1.2.1, 4 * 10, .inl fN)), (n2, .inl (Y.2.1.2.2, 4 * 2, .inr (.inl gN)))] H := hP
  have hD : va_D A [(hp, .inr (0, [.ref ht, .ref hd, .ref hn, .int 0, .int (-1), .int 0, .int (-1), .int (-1), .int 46])), (ht, .inr (2, [.ref tb, .int (nI 0), .int (nI 0), .int 0, .int (nI 0), .long 0, .int (-1), .int 0])), (tb, .inl (Y.2.1.1, 64, .inl fB)), (hd, .inr (1, [.int (nI 13), .int (nI 9), .ref d1, .ref d2, .int (nI 0)])), (d1, .inl (Y.2.1.2.1, 4 * 13, .inl fD)), (d2, .inl (Y.2.1.2.2, 4 * 9, .inr (.inl gD))), (hn, .inr (1, [.int (nI 10), .int (nI 2), .ref n1, .ref n2, .int (nI 0)])), (n1, .inl (Y.2.1.2.1, 4 * 10, .inl fN)), (n2, .inl (Y.2.1.2.2, 4 * 2, .inr (.inl gN)))] := hD
  exact zz_vret (w1 := [(hp, .inr (0, [.ref ht, .ref hd, .ref hn, .int 0, .int (-1), .int 0, .int (-1), .int (-1), .int 46])), (ht, .inr (2, [.ref tb, .int (nI 0), .int (nI 0), .int 0, .int (nI 0), .long 0, .int (-1), .int 0])), (tb, .inl (Y.2.1.1, 64, .inl fB)), (hd, .inr (1, [.int (nI 13), .int (nI 9), .ref d1, .ref d2, .int (nI 0)])), (d1, .inl (Y.2.1.2.1, 4 * 13, .inl fD)), (d2, .inl (Y.2.1.2.2, 4 * 9, .inr (.inl gD))), (hn, .inr (1, [.int (nI 10), .int (nI 2), .ref n1, .ref n2, .int (nI 0)])), (n1, .inl (Y.2.1.2.1, 4 * 10, .inl fN)), (n2, .inl (Y.2.1.2.2, 4 * 2, .inr (.inl gN)))]) hx hb hr hlocks hAe hP hD hS [0, 1, 2, 3, 4, 5, 6, 7, 8] rfl (by decide) ⟨ht, hd, hn, tb, fB, d1, d2, fD, gD, n1, n2, fN, gN, rfl, okT, okD, okN⟩ (Nat.le_refl _) (Nat.le_refl _) dc_P_init_75

/-! TwoLevelParser -/
def zx_OK (Y : zz_Y) (h0 hp ht hd hn : Nat) (tx : Nat → Nat) (cap : Nat) (len : Nat) (next : Nat) (token : Int32) (place : Nat) (name : Int64) (word : Int32) (value : Int32) (dr : Nat) (dc : Nat) (dnum : Nat → Nat → Int32) (dnam : Nat → Nat → Int64) (nr : Nat) (nc : Nat) (nnum : Nat → Nat → Int32) (nnam : Nat → Nat → Int64) (fault : Int32) (fp : Int32) (stage : Int32) (latest : Int32) (op : Int32) (wa : Int32) (W : va_W) : Prop := ∃ W1 : va_W, W = (h0, .inr (3, [.ref hp])) :: W1 ∧ zp_OK Y hp ht hd hn tx cap len next token place name word value dr dc dnum dnam nr nc nnum nnam fault fp stage latest op wa W1

set_option maxHeartbeats 4000000 in
set_option maxRecDepth 100000 in
theorem ct_X_init (l : Launch) (Y : zz_Y) (h0 : Nat) (tx : Nat → Nat) (dnum : Nat → Nat → Int32) (dnam : Nat → Nat → Int64) (nnum : Nat → Nat → Int32) (nnam : Nat → Nat → Int64) : zz_V l Y yn_X_init bc_X_init 1 none { frames := 3, cells := 9, slots := 227, locals := 62 } [.ref h0] [(h0, .inr (3, [.null]))] (fun w1 => ∃ hp ht hd hn : Nat, zx_OK Y h0 hp ht hd hn tx 64 0 0 0 0 0 (-1) 0 0 4 dnum dnam 0 4 nnum nnam 0 (-1) 0 (-1) (-1) 46 w1) := by
  intro sz
  refine zz_of (cc := bc_X_init) (maxL := 1) (ret := none) (by decide) (Nat.le_of_ble_eq_true rfl) ?_
  intro p e s m below meth c A ls hsz C0 hl
  subst hsz
  obtain ⟨hx, hb, hr, hml, hlocks, hin, hown, hw, hAe, hA, hK, hG, hP, hD, hS⟩ := C0
  have hown : s.vm.findClass "TwoLevelParser" = some m.cls := hown
  have hl : lv_has ls 1 [(0, .ref h0)] := hl
  refine lv_aload_n hx hb dc_X_init_0 rfl (lv_at hl 0 rfl) ?_
  refine W.objInit hx hb hown (hw _ kw_77) (hw _ kw_78) (hw _ kw_79) rfl (by rw [hml]; exact hl.1) rfl dc_X_init_1 (Nat.le_of_ble_eq_true rfl) (Nat.le_of_ble_eq_true rfl) ?_
  refine W.eq (g2 := F0 m 4 ls []) rfl ?_
  refine lv_aload_n hx hb dc_X_init_4 rfl (lv_at hl 0 rfl) ?_
  refine va_new (D := Y.1) (ci := 0) (fs := [.null, .null, .null, .int 0, .int 0, .int 0, .int 0, .int 0, .int 0]) (C := rn_P) (T := tf_P) (N := 9) hx hb hw wi_P ty_P ty_P_ok hown (hw _ kw_80) (hw _ kw_81) (hw _ kw_61) hK hP hD hS hA rfl (fun j hj => by rcases (show j = 0 ∨ j = 1 ∨ j = 2 ∨ j = 3 ∨ j = 4 ∨ j = 5 ∨ j = 6 ∨ j = 7 ∨ j = 8 by omega) with rfl | rfl | rfl | rfl | rfl | rfl | rfl | rfl | rfl <;> rfl) (Nat.le_of_ble_eq_true rfl) (Nat.le_of_ble_eq_true rfl) dc_X_init_5 (fun hp H hP hD hS => ?_)
  have hP : va_P Y.1 vwCl [(h0, .inr (3, [.null])), (hp, .inr (0, [.null, .null, .null, .int 0, .int 0, .int 0, .int 0, .int 0, .int 0]))] H := hP
  have hD : va_D A [(h0, .inr (3, [.null])), (hp, .inr (0, [.null, .null, .null, .int 0, .int 0, .int 0, .int 0, .int 0, .int 0]))] := hD
  refine W.widen (k := 1) (n := 9) (Nat.le_refl _) (Nat.le_refl _) ?_
  refine lv_dup hx hb dc_X_init_8 rfl ?_
  refine zz_goV (wc := [(hp, .inr (0, [.null, .null, .null, .int 0, .int 0, .int 0, .int 0, .int 0, .int 0]))]) (wr := [(h0, .inr (3, [.null]))]) (va_runIN (b := hp) (As := []) (rest := [.ref hp, .ref h0]) ⟨hx, hb, hml, hown, hw⟩ (ct_P_init l Y hp tx dnum dnam nnum nnam _) ⟨va_cnB 0 hw (zz_gI kw_84) rfl rfl rfl hG.2.1 (hw _ kw_61) (by decide +kernel) ⟨Nat.le_of_ble_eq_true rfl, Nat.le_of_ble_eq_true rfl⟩, rfl, hw _ kw_83⟩ (zz_preS hK hG hA hP hD hS [1] rfl (by decide)) rfl rfl hl.1 rfl (lv_room (Nat.le_of_ble_eq_true rfl)) dc_X_init_9 ⟨Nat.le_of_ble_eq_true rfl, Nat.le_of_ble_eq_true rfl⟩) hA hP hD hS [1] [0] rfl rfl (by decide) (by decide) (fun w1 H locs hw1 hP hD hS => ?_)
  obtain ⟨ht, hd, hn, tb, fB, d1, d2, fD, gD, n1, n2, fN, gN, rfl, okT, okD, okN⟩ := hw1
  have hP : va_P Y.1 vwCl [(h0, .inr (3, [.null])), (hp, .inr (0, [.ref ht, .ref hd, .ref hn, .int 0, .int (-1), .int 0, .int (-1), .int (-1), .int 46])), (ht, .inr (2, [.ref tb, .int (nI 0), .int (nI 0), .int 0, .int (nI 0), .long 0, .int (-1), .int 0])), (tb, .inl (Y.2.1.1, 64, .inl fB)), (hd, .inr (1, [.int (nI 13), .int (nI 9), .ref d1, .ref d2, .int (nI 0)])), (d1, .inl (Y.2.1.2.1, 4 * 13, .inl fD)), (d2, .inl (Y.2.1.2.2, 4 * 9, .inr (.inl gD))), (hn, .inr (1, [.int (nI 10), .int (nI 2), .ref n1, .ref n2, .int (nI 0)])), (n1, .inl (Y.2.1.2.1, 4 * 10, .inl fN)), (n2, .inl (Y.2.1.2.2, 4 * 2, .inr (.inl gN)))] H := hP
  have hD : va_D A [(h0, .inr (3, [.null])), (hp, .inr (0, [.ref ht, .ref hd, .ref hn, .int 0, .int (-1), .int 0, .int (-1), .int (-1), .int 46])), (ht, .inr (2, [.ref tb, .int (nI 0), .int (nI 0), .int 0, .int (nI 0), .long 0, .int (-1), .int 0])), (tb, .inl (Y.2.1.1, 64, .inl fB)), (hd, .inr (1, [.int (nI 13), .int (nI 9), .ref d1, .ref d2, .int (nI 0)])), (d1, .inl (Y.2.1.2.1, 4 * 13, .inl fD)), (d2, .inl (Y.2.1.2.2, 4 * 9, .inr (.inl gD))), (hn, .inr (1, [.int (nI 10), .int (nI 2), .ref n1, .ref n2, .int (nI 0)])), (n1, .inl (Y.2.1.2.1, 4 * 10, .inl fN)), (n2, .inl (Y.2.1.2.2, 4 * 2, .inr (.inl gN)))] := hD
  refine W.widen (k := 9) (n := 227) (Nat.le_refl _) (Nat.le_refl _) ?_
  refine va_putF (D := Y.1) (ci := 3) (v := .ref hp) (ty := .object "TwoLevelParser$Parser") (C := rn_X) (T := tf_X) (N := 1) hx hb hw wi_X ty_X ty_X_ok nm_X hown hK hP hD hS 0 rfl rfl 0 (by decide) (hw _ kw_183) (fun _ h9 => h9) rfl hin rfl (by decide +kernel) rfl rfl (Nat.le_of_ble_eq_true rfl) dc_X_init_12 (fun H locs hP hD hS => ?_)
  have hP : va_P Y.1 vwCl [(h0, .inr (3, [.ref hp])), (hp, .inr (0, [.ref ht, .ref hd, .ref hn, .int 0, .int (-1), .int 0, .int (-1), .int (-1), .int 46])), (ht, .inr (2, [.ref tb, .int (nI 0), .int (nI 0), .int 0, .int (nI 0), .long 0, .int (-1), .int 0])), (tb, .inl (Y.2.1.1, 64, .inl fB)), (hd, .inr (1, [.int (nI 13), .int (nI 9), .ref d1, .ref d2, .int (nI 0)])), (d1, .inl (Y.2.1.2.1, 4 * 13, .inl fD)), (d2, .inl (Y.2.1.2.2, 4 * 9, .inr (.inl gD))), (hn, .inr (1, [.int (nI 10), .int (nI 2), .ref n1, .ref n2, .int (nI 0)])), (n1, .inl (Y.2.1.2.1, 4 * 10, .inl fN)), (n2, .inl (Y.2.1.2.2, 4 * 2, .inr (.inl gN)))] H := hP
  have hD : va_D A [(h0, .inr (3, [.ref hp])), (hp, .inr (0, [.ref ht, .ref hd, .ref hn, .int 0, .int (-1), .int 0, .int (-1), .int (-1), .int 46])), (ht, .inr (2, [.ref tb, .int (nI 0), .int (nI 0), .int 0, .int (nI 0), .long 0, .int (-1), .int 0])), (tb, .inl (Y.2.1.1, 64, .inl fB)), (hd, .inr (1, [.int (nI 13), .int (nI 9), .ref d1, .ref d2, .int (nI 0)])), (d1, .inl (Y.2.1.2.1, 4 * 13, .inl fD)), (d2, .inl (Y.2.1.2.2, 4 * 9, .inr (.inl gD))), (hn, .inr (1, [.int (nI 10), .int (nI 2), .ref n1, .ref n2, .int (nI 0)])), (n1, .inl (Y.2.1.2.1, 4 * 10, .inl fN)), (n2, .inl (Y.2.1.2.2, 4 * 2, .inr (.inl gN)))] := hD
  exact zz_vret (w1 := [(h0, .inr (3, [.ref hp])), (hp, .inr (0, [.ref ht, .ref hd, .ref hn, .int 0, .int (-1), .int 0, .int (-1), .int (-1), .int 46])), (ht, .inr (2, [.ref tb, .int (nI 0), .int (nI 0), .int 0, .int (nI 0), .long 0, .int (-1), .int 0])), (tb, .inl (Y.2.1.1, 64, .inl fB)), (hd, .inr (1, [.int (nI 13), .int (nI 9), .ref d1, .ref d2, .int (nI 0)])), (d1, .inl (Y.2.1.2.1, 4 * 13, .inl fD)), (d2, .inl (Y.2.1.2.2, 4 * 9, .inr (.inl gD))), (hn, .inr (1, [.int (nI 10), .int (nI 2), .ref n1, .ref n2, .int (nI 0)])), (n1, .inl (Y.2.1.2.1, 4 * 10, .inl fN)), (n2, .inl (Y.2.1.2.2, 4 * 2, .inr (.inl gN)))]) hx hb hr hlocks hAe hP hD hS [0, 1, 2, 3, 4, 5, 6, 7, 8, 9] rfl (by decide) ⟨hp, ht, hd, hn, _, rfl, tb, fB, d1, d2, fD, gD, n1, n2, fN, gN, rfl, okT, okD, okN⟩ (Nat.le_refl _) (Nat.le_refl _) dc_X_init_15

def zx_definition (dr : Nat) (dnum : Nat → Nat → Int32) (d : Int32) (w : Int32) : Int32 :=
  if w ≤ 4 then zr_num 13 dr dnum d w else (-1)
set_option maxHeartbeats 4000000 in
set_option maxRecDepth 100000 in
theorem ct_X_definition (l : Launch) (Y : zz_Y) {h0 hp ht hd hn : Nat} {tx : Nat → Nat} {cap : Nat} {len : Nat} {next : Nat} {token : Int32} {place : Nat} {name : Int64} {word : Int32} {value : Int32} {dr : Nat} {dc : Nat} {dnum : Nat → Nat → Int32} {dnam : Nat → Nat → Int64} {nr : Nat} {nc : Nat} {nnum : Nat → Nat → Int32} {nnam : Nat → Nat → Int64} {fault : Int32} {fp : Int32} {stage : Int32} {latest : Int32} {op : Int32} {wa : Int32} {wc : va_W} (hok : zx_OK Y h0 hp ht hd hn tx cap len next token place name word value dr dc dnum dnam nr nc nnum nnam fault fp stage latest op wa wc) (d : Int32) (w : Int32) : zz_I0 l Y yn_X_definition bc_X_definition 3 (some .int) { frames := 1, cells := 0, slots := 0, locals := 23 } [.ref h0, .int d, .int w] wc (fun r => r = zx_definition dr dnum d w) := by
  intro sz
  obtain ⟨_, rfl, tb, fB, d1, d2, fD, gD, n1, n2, fN, gN, rfl, okT, okD, okN⟩ := hok
  refine zz_of (cc := bc_X_definition) (maxL := 3) (ret := (some .int)) (by decide) (Nat.le_of_ble_eq_true rfl) ?_
  intro p e s m below meth c A ls hsz C0 hl
  subst hsz
  obtain ⟨hx, hb, hr, hml, hlocks, hin, hown, hw, hAe, hA, hK, hG, hP, hD, hS⟩ := C0
  have hown : s.vm.findClass "TwoLevelParser" = some m.cls := hown
  have hl : lv_has ls 3 [(0, .ref h0), (1, .int d), (2, .int w)] := hl
  refine lv_iload_n hx hb dc_X_definition_0 rfl (lv_at hl 2 rfl) ?_
  refine lv_iconst (v := 4) hx hb dc_X_definition_1 (by decide) ?_
  refine lv_icmp_le (tgt := 9) hx hb dc_X_definition_2 (by decide) (fun c_1 => ?_) (fun c_1 => ?_)
  · skip
    refine lv_aload_n hx hb dc_X_definition_9 rfl (lv_at hl 0 rfl) ?_
    refine va_get (D := Y.1) (ci := 3) (v := .ref hp) (C := rn_X) (T := tf_X) (N := 1) hx hb hw wi_X hown hK hP 0 rfl rfl 0 (by decide) (hw _ kw_183) (fun _ h9 => h9) rfl dc_X_definition_10 ?_
    refine va_get (D := Y.1) (ci := 0) (v := .ref hd) (C := rn_P) (T := tf_P) (N := 9) hx hb hw wi_P hown hK hP 1 rfl rfl 1 (by decide) (hw _ kw_153) (fun _ h9 => h9) rfl dc_X_definition_13 ?_
    refine lv_iload_n hx hb dc_X_definition_16 rfl (lv_at hl 1 rfl) ?_
    refine lv_iload_n hx hb dc_X_definition_17 rfl (lv_at hl 2 rfl) ?_
    refine vp_callSi (W.runV (As := [.int d, .int w]) (rest := []) ⟨hx, hb, hml, hown, hw⟩ (ct_R_numberAt l Y (wc := [(hd, .inr (1, [.int (nI 13), .int (nI 9), .ref d1, .ref d2, .int (nI dr)])), (d1, .inl (Y.2.1.2.1, dc * 13, .inl fD)), (d2, .inl (Y.2.1.2.2, dc * 9, .inr (.inl gD)))]) ⟨d1, d2, fD, gD, rfl, okD⟩ d w _) (cwV 2 hw (zz_gV kw_509 kw_289 kw_290 kw_63 kw_291) rfl rfl rfl (by decide +kernel) ⟨Nat.le_of_ble_eq_true rfl, Nat.le_of_ble_eq_true rfl⟩) (zz_preV hK hG hA hP hD hS [4, 5, 6] rfl (by decide) rfl rfl) rfl rfl hl.1 rfl (lv_room (Nat.le_of_ble_eq_true rfl)) dc_X_definition_18 ⟨Nat.le_of_ble_eq_true rfl, Nat.le_of_ble_eq_true rfl⟩) (fun r hr9 => ?_)
    subst hr9
    exact zz_iret0 hx hb hr rfl hlocks (by rw [zx_definition, if_pos c_1]) dc_X_definition_21
  · skip
    refine lv_iconst (v := (-1)) hx hb dc_X_definition_5 (by decide) ?_
    refine lv_goto (tgt := 21) hx hb dc_X_definition_6 (by decide) ?_
    exact zz_iret0 hx hb hr rfl hlocks (by rw [zx_definition, if_neg c_1]) dc_X_definition_21

def zx_title (dr : Nat) (dnam : Nat → Nat → Int64) (d : Int32) (i : Int32) : Int64 :=
  if i < (-1) then 0 else if i < 8 then zr_nam 9 dr dnam d (i + 1) else 0
set_option maxHeartbeats 4000000 in
set_option maxRecDepth 100000 in
theorem ct_X_title (l : Launch) (Y : zz_Y) {h0 hp ht hd hn : Nat} {tx : Nat → Nat} {cap : Nat} {len : Nat} {next : Nat} {token : Int32} {place : Nat} {name : Int64} {word : Int32} {value : Int32} {dr : Nat} {dc : Nat} {dnum : Nat → Nat → Int32} {dnam : Nat → Nat → Int64} {nr : Nat} {nc : Nat} {nnum : Nat → Nat → Int32} {nnam : Nat → Nat → Int64} {fault : Int32} {fp : Int32} {stage : Int32} {latest : Int32} {op : Int32} {wa : Int32} {wc : va_W} (hok : zx_OK Y h0 hp ht hd hn tx cap len next token place name word value dr dc dnum dnam nr nc nnum nnam fault fp stage latest op wa wc) (d : Int32) (i : Int32) : zz_L0 l Y yn_X_title bc_X_title 3 (some .long) { frames := 1, cells := 0, slots := 0, locals := 23 } [.ref h0, .int d, .int i] wc (fun r => r = zx_title dr dnam d i) := by
  intro sz
  obtain ⟨_, rfl, tb, fB, d1, d2, fD, gD, n1, n2, fN, gN, rfl, okT, okD, okN⟩ := hok
  refine zz_of (cc := bc_X_title) (maxL := 3) (ret := (some .long)) (by decide) (Nat.le_of_ble_eq_true rfl) ?_
  intro p e s m below meth c A ls hsz C0 hl
  subst hsz
  obtain ⟨hx, hb, hr, hml, hlocks, hin, hown, hw, hAe, hA, hK, hG, hP, hD, hS⟩ := C0
  have hown : s.vm.findClass "TwoLevelParser" = some m.cls := hown
  have hl : lv_has ls 3 [(0, .ref h0), (1, .int d), (2, .int i)] := hl
  refine lv_iload_n hx hb dc_X_title_0 rfl (lv_at hl 2 rfl) ?_
  refine lv_iconst (v := (-1)) hx hb dc_X_title_1 (by decide) ?_
  refine lv_icmp_lt (tgt := 11) hx hb dc_X_title_2 (by decide) (fun c_1 => ?_) (fun c_1 => ?_)
  · skip
    refine lv_lconst (v := 0) hx hb dc_X_title_11 (by decide) ?_
    refine lv_goto (tgt := 29) hx hb dc_X_title_12 (by decide) ?_
    exact zz_lret0 hx hb hr hlocks (by rw [zx_title, if_pos c_1]) dc_X_title_29
  · skip
    refine lv_iload_n hx hb dc_X_title_5 rfl (lv_at hl 2 rfl) ?_
    refine lv_bipush (v := 8) hx hb dc_X_title_6 (by decide) ?_
    refine lv_icmp_lt (tgt := 15) hx hb dc_X_title_8 (by decide) (fun c_2 => ?_) (fun c_2 => ?_)
    · skip
      refine lv_aload_n hx hb dc_X_title_15 rfl (lv_at hl 0 rfl) ?_
      refine va_get (D := Y.1) (ci := 3) (v := .ref hp) (C := rn_X) (T := tf_X) (N := 1) hx hb hw wi_X hown hK hP 0 rfl rfl 0 (by decide) (hw _ kw_183) (fun _ h9 => h9) rfl dc_X_title_16 ?_
      refine va_get (D := Y.1) (ci := 0) (v := .ref hd) (C := rn_P) (T := tf_P) (N := 9) hx hb hw wi_P hown hK hP 1 rfl rfl 1 (by decide) (hw _ kw_153) (fun _ h9 => h9) rfl dc_X_title_19 ?_
      refine lv_iload_n hx hb dc_X_title_22 rfl (lv_at hl 1 rfl) ?_
      refine lv_iload_n hx hb dc_X_title_23 rfl (lv_at hl 2 rfl) ?_
      refine lv_iconst (v := 1) hx hb dc_X_title_24 (by decide) ?_
      refine lv_iadd hx hb dc_X_title_25 ?_
      refine vp_callSl (W.runV (As := [.int d, .int (i + 1)]) (rest := []) ⟨hx, hb, hml, hown, hw⟩ (ct_R_nameAt l Y (wc := [(hd, .inr (1, [.int (nI 13), .int (nI 9), .ref d1, .ref d2, .int (nI dr)])), (d1, .inl (Y.2.1.2.1, dc * 13, .inl fD)), (d2, .inl (Y.2.1.2.2, dc * 9, .inr (.inl gD)))]) ⟨d1, d2, fD, gD, rfl, okD⟩ d (i + 1) _) (cwV 2 hw (zz_gV kw_514 kw_441 kw_442 kw_63 kw_443) rfl rfl rfl (by decide +kernel) ⟨Nat.le_of_ble_eq_true rfl, Nat.le_of_ble_eq_true rfl⟩) (zz_preV hK hG hA hP hD hS [4, 5, 6] rfl (by decide) rfl rfl) rfl rfl hl.1 rfl (lv_room (Nat.le_of_ble_eq_true rfl)) dc_X_title_26 ⟨Nat.le_of_ble_eq_true rfl, Nat.le_of_ble_eq_true rfl⟩) (fun r hr9 => ?_)
      subst hr9
      exact zz_lret0 hx hb hr hlocks (by rw [zx_title, if_neg c_1, if_pos c_2]) dc_X_title_29
    · skip
      refine lv_lconst (v := 0) hx hb dc_X_title_11 (by decide) ?_
      refine lv_goto (tgt := 29) hx hb dc_X_title_12 (by decide) ?_
      exact zz_lret0 hx hb hr hlocks (by rw [zx_title, if_neg c_1, if_neg c_2]) dc_X_title_29

def zx_parameter (dr : Nat) (dnum : Nat → Nat → Int32) (d : Int32) (i : Int32) : Int32 :=
  if i < 0 then (-1) else if i < 8 then zr_num 13 dr dnum d (i + 5) else (-1)
set_option maxHeartbeats 4000000 in
set_option maxRecDepth 100000 in
theorem ct_X_parameter (l : Launch) (Y : zz_Y) {h0 hp ht hd hn : Nat} {tx : Nat → Nat} {cap : Nat} {len : Nat} {next : Nat} {token : Int32} {place : Nat} {name : Int64} {word : Int32} {value : Int32} {dr : Nat} {dc : Nat} {dnum : Nat → Nat → Int32} {dnam : Nat → Nat → Int64} {nr : Nat} {nc : Nat} {nnum : Nat → Nat → Int32} {nnam : Nat → Nat → Int64} {fault : Int32} {fp : Int32} {stage : Int32} {latest : Int32} {op : Int32} {wa : Int32} {wc : va_W} (hok : zx_OK Y h0 hp ht hd hn tx cap len next token place name word value dr dc dnum dnam nr nc nnum nnam fault fp stage latest op wa wc) (d : Int32) (i : Int32) : zz_I0 l Y yn_X_parameter bc_X_parameter 3 (some .int) { frames := 1, cells := 0, slots := 0, locals := 23 } [.ref h0, .int d, .int i] wc (fun r => r = zx_parameter dr dnum d i) := by
  intro sz
  obtain ⟨_, rfl, tb, fB, d1, d2, fD, gD, n1, n2, fN, gN, rfl, okT, okD, okN⟩ := hok
  refine zz_of (cc := bc_X_parameter) (maxL := 3) (ret := (some .int)) (by decide) (Nat.le_of_ble_eq_true rfl) ?_
  intro p e s m below meth c A ls hsz C0 hl
  subst hsz
  obtain ⟨hx, hb, hr, hml, hlocks, hin, hown, hw, hAe, hA, hK, hG, hP, hD, hS⟩ := C0
  have hown : s.vm.findClass "TwoLevelParser" = some m.cls := hown
  have hl : lv_has ls 3 [(0, .ref h0), (1, .int d), (2, .int i)] := hl
  refine lv_iload_n hx hb dc_X_parameter_0 rfl (lv_at hl 2 rfl) ?_
  refine lv_if_lt (tgt := 10) hx hb dc_X_parameter_1 (by decide) (fun c_1 => ?_) (fun c_1 => ?_)
  · skip
    refine lv_iconst (v := (-1)) hx hb dc_X_parameter_10 (by decide) ?_
    refine lv_goto (tgt := 28) hx hb dc_X_parameter_11 (by decide) ?_
    exact zz_iret0 hx hb hr rfl hlocks (by rw [zx_parameter, if_pos c_1]) dc_X_parameter_28
  · skip
    refine lv_iload_n hx hb dc_X_parameter_4 rfl (lv_at hl 2 rfl) ?_
    refine lv_bipush (v := 8) hx hb dc_X_parameter_5 (by decide) ?_
    refine lv_icmp_lt (tgt := 14) hx hb dc_X_parameter_7 (by decide) (fun c_2 => ?_) (fun c_2 => ?_)
    · skip
      refine lv_aload_n hx hb dc_X_parameter_14 rfl (lv_at hl 0 rfl) ?_
      refine va_get (D := Y.1) (ci := 3) (v := .ref hp) (C := rn_X) (T := tf_X) (N := 1) hx hb hw wi_X hown hK hP 0 rfl rfl 0 (by decide) (hw _ kw_183) (fun _ h9 => h9) rfl dc_X_parameter_15 ?_
      refine va_get (D := Y.1) (ci := 0) (v := .ref hd) (C := rn_P) (T := tf_P) (N := 9) hx hb hw wi_P hown hK hP 1 rfl rfl 1 (by decide) (hw _ kw_153) (fun _ h9 => h9) rfl dc_X_parameter_18 ?_
      refine lv_iload_n hx hb dc_X_parameter_21 rfl (lv_at hl 1 rfl) ?_
      refine lv_iload_n hx hb dc_X_parameter_22 rfl (lv_at hl 2 rfl) ?_
      refine lv_iconst (v := 5) hx hb dc_X_parameter_23 (by decide) ?_
      refine lv_iadd hx hb dc_X_parameter_24 ?_
      refine vp_callSi (W.runV (As := [.int d, .int (i + 5)]) (rest := []) ⟨hx, hb, hml, hown, hw⟩ (ct_R_numberAt l Y (wc := [(hd, .inr (1, [.int (nI 13), .int (nI 9), .ref d1, .ref d2, .int (nI dr)])), (d1, .inl (Y.2.1.2.1, dc * 13, .inl fD)), (d2, .inl (Y.2.1.2.2, dc * 9, .inr (.inl gD)))]) ⟨d1, d2, fD, gD, rfl, okD⟩ d (i + 5) _) (cwV 2 hw (zz_gV kw_509 kw_289 kw_290 kw_63 kw_291) rfl rfl rfl (by decide +kernel) ⟨Nat.le_of_ble_eq_true rfl, Nat.le_of_ble_eq_true rfl⟩) (zz_preV hK hG hA hP hD hS [4, 5, 6] rfl (by decide) rfl rfl) rfl rfl hl.1 rfl (lv_room (Nat.le_of_ble_eq_true rfl)) dc_X_parameter_25 ⟨Nat.le_of_ble_eq_true rfl, Nat.le_of_ble_eq_true rfl⟩) (fun r hr9 => ?_)
      subst hr9
      exact zz_iret0 hx hb hr rfl hlocks (by rw [zx_parameter, if_neg c_1, if_pos c_2]) dc_X_parameter_28
    · skip
      refine lv_iconst (v := (-1)) hx hb dc_X_parameter_10 (by decide) ?_
      refine lv_goto (tgt := 28) hx hb dc_X_parameter_11 (by decide) ?_
      exact zz_iret0 hx hb hr rfl hlocks (by rw [zx_parameter, if_neg c_1, if_neg c_2]) dc_X_parameter_28

def zx_node (nr : Nat) (nnum : Nat → Nat → Int32) (k : Int32) (w : Int32) : Int32 :=
  if w ≤ 7 then zr_num 10 nr nnum k w else (-1)
set_option maxHeartbeats 4000000 in
set_option maxRecDepth 100000 in
theorem ct_X_node (l : Launch) (Y : zz_Y) {h0 hp ht hd hn : Nat} {tx : Nat → Nat} {cap : Nat} {len : Nat} {next : Nat} {token : Int32} {place : Nat} {name : Int64} {word : Int32} {value : Int32} {dr : Nat} {dc : Nat} {dnum : Nat → Nat → Int32} {dnam : Nat → Nat → Int64} {nr : Nat} {nc : Nat} {nnum : Nat → Nat → Int32} {nnam : Nat → Nat → Int64} {fault : Int32} {fp : Int32} {stage : Int32} {latest : Int32} {op : Int32} {wa : Int32} {wc : va_W} (hok : zx_OK Y h0 hp ht hd hn tx cap len next token place name word value dr dc dnum dnam nr nc nnum nnam fault fp stage latest op wa wc) (k : Int32) (w : Int32) : zz_I0 l Y yn_X_node bc_X_node 3 (some .int) { frames := 1, cells := 0, slots := 0, locals := 23 } [.ref h0, .int k, .int w] wc (fun r => r = zx_node nr nnum k w) := by
  intro sz
  obtain ⟨_, rfl, tb, fB, d1, d2, fD, gD, n1, n2, fN, gN, rfl, okT, okD, okN⟩ := hok
  refine zz_of (cc := bc_X_node) (maxL := 3) (ret := (some .int)) (by decide) (Nat.le_of_ble_eq_true rfl) ?_
  intro p e s m below meth c A ls hsz C0 hl
  subst hsz
  obtain ⟨hx, hb, hr, hml, hlocks, hin, hown, hw, hAe, hA, hK, hG, hP, hD, hS⟩ := C0
  have hown : s.vm.findClass "TwoLevelParser" = some m.cls := hown
  have hl : lv_has ls 3 [(0, .ref h0), (1, .int k), (2, .int w)] := hl
  refine lv_iload_n hx hb dc_X_node_0 rfl (lv_at hl 2 rfl) ?_
  refine lv_bipush (v := 7) hx hb dc_X_node_1 (by decide) ?_
  refine lv_icmp_le (tgt := 10) hx hb dc_X_node_3 (by decide) (fun c_1 => ?_) (fun c_1 => ?_)
  · skip
    refine lv_aload_n hx hb dc_X_node_10 rfl (lv_at hl 0 rfl) ?_
    refine va_get (D := Y.1) (ci := 3) (v := .ref hp) (C := rn_X) (T := tf_X) (N := 1) hx hb hw wi_X hown hK hP 0 rfl rfl 0 (by decide) (hw _ kw_183) (fun _ h9 => h9) rfl dc_X_node_11 ?_
    refine va_get (D := Y.1) (ci := 0) (v := .ref hn) (C := rn_P) (T := tf_P) (N := 9) hx hb hw wi_P hown hK hP 1 rfl rfl 2 (by decide) (hw _ kw_155) (fun _ h9 => h9) rfl dc_X_node_14 ?_
    refine lv_iload_n hx hb dc_X_node_17 rfl (lv_at hl 1 rfl) ?_
    refine lv_iload_n hx hb dc_X_node_18 rfl (lv_at hl 2 rfl) ?_
    refine vp_callSi (W.runV (As := [.int k, .int w]) (rest := []) ⟨hx, hb, hml, hown, hw⟩ (ct_R_numberAt l Y (wc := [(hn, .inr (1, [.int (nI 10), .int (nI 2), .ref n1, .ref n2, .int (nI nr)])), (n1, .inl (Y.2.1.2.1, nc * 10, .inl fN)), (n2, .inl (Y.2.1.2.2, nc * 2, .inr (.inl gN)))]) ⟨n1, n2, fN, gN, rfl, okN⟩ k w _) (cwV 2 hw (zz_gV kw_509 kw_289 kw_290 kw_63 kw_291) rfl rfl rfl (by decide +kernel) ⟨Nat.le_of_ble_eq_true rfl, Nat.le_of_ble_eq_true rfl⟩) (zz_preV hK hG hA hP hD hS [7, 8, 9] rfl (by decide) rfl rfl) rfl rfl hl.1 rfl (lv_room (Nat.le_of_ble_eq_true rfl)) dc_X_node_19 ⟨Nat.le_of_ble_eq_true rfl, Nat.le_of_ble_eq_true rfl⟩) (fun r hr9 => ?_)
    subst hr9
    exact zz_iret0 hx hb hr rfl hlocks (by rw [zx_node, if_pos c_1]) dc_X_node_22
  · skip
    refine lv_iconst (v := (-1)) hx hb dc_X_node_6 (by decide) ?_
    refine lv_goto (tgt := 22) hx hb dc_X_node_7 (by decide) ?_
    exact zz_iret0 hx hb hr rfl hlocks (by rw [zx_node, if_neg c_1]) dc_X_node_22

def zx_name (nr : Nat) (nnam : Nat → Nat → Int64) (k : Int32) (i : Int32) : Int64 :=
  zr_nam 2 nr nnam k i
set_option maxHeartbeats 4000000 in
set_option maxRecDepth 100000 in
theorem ct_X_name (l : Launch) (Y : zz_Y) {h0 hp ht hd hn : Nat} {tx : Nat → Nat} {cap : Nat} {len : Nat} {next : Nat} {token : Int32} {place : Nat} {name : Int64} {word : Int32} {value : Int32} {dr : Nat} {dc : Nat} {dnum : Nat → Nat → Int32} {dnam : Nat → Nat → Int64} {nr : Nat} {nc : Nat} {nnum : Nat → Nat → Int32} {nnam : Nat → Nat → Int64} {fault : Int32} {fp : Int32} {stage : Int32} {latest : Int32} {op : Int32} {wa : Int32} {wc : va_W} (hok : zx_OK Y h0 hp ht hd hn tx cap len next token place name word value dr dc dnum dnam nr nc nnum nnam fault fp stage latest op wa wc) (k : Int32) (i : Int32) : zz_L0 l Y yn_X_name bc_X_name 3 (some .long) { frames := 1, cells := 0, slots := 0, locals := 23 } [.ref h0, .int k, .int i] wc (fun r => r = zx_name nr nnam k i) := by
  intro sz
  obtain ⟨_, rfl, tb, fB, d1, d2, fD, gD, n1, n2, fN, gN, rfl, okT, okD, okN⟩ := hok
  refine zz_of (cc := bc_X_name) (maxL := 3) (ret := (some .long)) (by decide) (Nat.le_of_ble_eq_true rfl) ?_
  intro p e s m below meth c A ls hsz C0 hl
  subst hsz
  obtain ⟨hx, hb, hr, hml, hlocks, hin, hown, hw, hAe, hA, hK, hG, hP, hD, hS⟩ := C0
  have hown : s.vm.findClass "TwoLevelParser" = some m.cls := hown
  have hl : lv_has ls 3 [(0, .ref h0), (1, .int k), (2, .int i)] := hl
  refine lv_aload_n hx hb dc_X_name_0 rfl (lv_at hl 0 rfl) ?_
  refine va_get (D := Y.1) (ci := 3) (v := .ref hp) (C := rn_X) (T := tf_X) (N := 1) hx hb hw wi_X hown hK hP 0 rfl rfl 0 (by decide) (hw _ kw_183) (fun _ h9 => h9) rfl dc_X_name_1 ?_
  refine va_get (D := Y.1) (ci := 0) (v := .ref hn) (C := rn_P) (T := tf_P) (N := 9) hx hb hw wi_P hown hK hP 1 rfl rfl 2 (by decide) (hw _ kw_155) (fun _ h9 => h9) rfl dc_X_name_4 ?_
  refine lv_iload_n hx hb dc_X_name_7 rfl (lv_at hl 1 rfl) ?_
  refine lv_iload_n hx hb dc_X_name_8 rfl (lv_at hl 2 rfl) ?_
  refine vp_callSl (W.runV (As := [.int k, .int i]) (rest := []) ⟨hx, hb, hml, hown, hw⟩ (ct_R_nameAt l Y (wc := [(hn, .inr (1, [.int (nI 10), .int (nI 2), .ref n1, .ref n2, .int (nI nr)])), (n1, .inl (Y.2.1.2.1, nc * 10, .inl fN)), (n2, .inl (Y.2.1.2.2, nc * 2, .inr (.inl gN)))]) ⟨n1, n2, fN, gN, rfl, okN⟩ k i _) (cwV 2 hw (zz_gV kw_514 kw_441 kw_442 kw_63 kw_443) rfl rfl rfl (by decide +kernel) ⟨Nat.le_of_ble_eq_true rfl, Nat.le_of_ble_eq_true rfl⟩) (zz_preV hK hG hA hP hD hS [7, 8, 9] rfl (by decide) rfl rfl) rfl rfl hl.1 rfl (lv_room (Nat.le_of_ble_eq_true rfl)) dc_X_name_9 ⟨Nat.le_of_ble_eq_true rfl, Nat.le_of_ble_eq_true rfl⟩) (fun r hr9 => ?_)
  subst hr9
  exact zz_lret0 hx hb hr hlocks (by rw [zx_name]) dc_X_name_12

def zx_number (nr : Nat) (nnum : Nat → Nat → Int32) (k : Int32) : Int32 :=
  if (zr_num 10 nr nnum k 0) = 0 then zr_num 10 nr nnum k 8 else 0
set_option maxHeartbeats 4000000 in
set_option maxRecDepth 100000 in
theorem ct_X_number (l : Launch) (Y : zz_Y) {h0 hp ht hd hn : Nat} {tx : Nat → Nat} {cap : Nat} {len : Nat} {next : Nat} {token : Int32} {place : Nat} {name : Int64} {word : Int32} {value : Int32} {dr : Nat} {dc : Nat} {dnum : Nat → Nat → Int32} {dnam : Nat → Nat → Int64} {nr : Nat} {nc : Nat} {nnum : Nat → Nat → Int32} {nnam : Nat → Nat → Int64} {fault : Int32} {fp : Int32} {stage : Int32} {latest : Int32} {op : Int32} {wa : Int32} {wc : va_W} (hok : zx_OK Y h0 hp ht hd hn tx cap len next token place name word value dr dc dnum dnam nr nc nnum nnam fault fp stage latest op wa wc) (k : Int32) : zz_I0 l Y yn_X_number bc_X_number 2 (some .int) { frames := 1, cells := 0, slots := 0, locals := 23 } [.ref h0, .int k] wc (fun r => r = zx_number nr nnum k) := by
  intro sz
  obtain ⟨_, rfl, tb, fB, d1, d2, fD, gD, n1, n2, fN, gN, rfl, okT, okD, okN⟩ := hok
  refine zz_of (cc := bc_X_number) (maxL := 2) (ret := (some .int)) (by decide) (Nat.le_of_ble_eq_true rfl) ?_
  intro p e s m below meth c A ls hsz C0 hl
  subst hsz
  obtain ⟨hx, hb, hr, hml, hlocks, hin, hown, hw, hAe, hA, hK, hG, hP, hD, hS⟩ := C0
  have hown : s.vm.findClass "TwoLevelParser" = some m.cls := hown
  have hl : lv_has ls 2 [(0, .ref h0), (1, .int k)] := hl
  refine lv_aload_n hx hb dc_X_number_0 rfl (lv_at hl 0 rfl) ?_
  refine va_get (D := Y.1) (ci := 3) (v := .ref hp) (C := rn_X) (T := tf_X) (N := 1) hx hb hw wi_X hown hK hP 0 rfl rfl 0 (by decide) (hw _ kw_183) (fun _ h9 => h9) rfl dc_X_number_1 ?_
  refine va_get (D := Y.1) (ci := 0) (v := .ref hn) (C := rn_P) (T := tf_P) (N := 9) hx hb hw wi_P hown hK hP 1 rfl rfl 2 (by decide) (hw _ kw_155) (fun _ h9 => h9) rfl dc_X_number_4 ?_
  refine lv_iload_n hx hb dc_X_number_7 rfl (lv_at hl 1 rfl) ?_
  refine lv_iconst (v := 0) hx hb dc_X_number_8 (by decide) ?_
  refine vp_callSi (W.runV (As := [.int k, .int 0]) (rest := []) ⟨hx, hb, hml, hown, hw⟩ (ct_R_numberAt l Y (wc := [(hn, .inr (1, [.int (nI 10), .int (nI 2), .ref n1, .ref n2, .int (nI nr)])), (n1, .inl (Y.2.1.2.1, nc * 10, .inl fN)), (n2, .inl (Y.2.1.2.2, nc * 2, .inr (.inl gN)))]) ⟨n1, n2, fN, gN, rfl, okN⟩ k 0 _) (cwV 2 hw (zz_gV kw_509 kw_289 kw_290 kw_63 kw_291) rfl rfl rfl (by decide +kernel) ⟨Nat.le_of_ble_eq_true rfl, Nat.le_of_ble_eq_true rfl⟩) (zz_preV hK hG hA hP hD hS [7, 8, 9] rfl (by decide) rfl rfl) rfl rfl hl.1 rfl (lv_room (Nat.le_of_ble_eq_true rfl)) dc_X_number_9 ⟨Nat.le_of_ble_eq_true rfl, Nat.le_of_ble_eq_true rfl⟩) (fun r hr9 => ?_)
  subst hr9
  refine lv_if_ne (tgt := 31) hx hb dc_X_number_12 (by decide) (fun c_1 => ?_) (fun c_1 => ?_)
  · skip
    refine lv_iconst (v := 0) hx hb dc_X_number_31 (by decide) ?_
    exact zz_iret0 hx hb hr rfl hlocks (by rw [zx_number, if_neg c_1]) dc_X_number_32
  · skip
    refine lv_aload_n hx hb dc_X_number_15 rfl (lv_at hl 0 rfl) ?_
    refine va_get (D := Y.1) (ci := 3) (v := .ref hp) (C := rn_X) (T := tf_X) (N := 1) hx hb hw wi_X hown hK hP 0 rfl rfl 0 (by decide) (hw _ kw_183) (fun _ h9 => h9) rfl dc_X_number_16 ?_
    refine va_get (D := Y.1) (ci := 0) (v := .ref hn) (C := rn_P) (T := tf_P) (N := 9) hx hb hw wi_P hown hK hP 1 rfl rfl 2 (by decide) (hw _ kw_155) (fun _ h9 => h9) rfl dc_X_number_19 ?_
    refine lv_iload_n hx hb dc_X_number_22 rfl (lv_at hl 1 rfl) ?_
    refine lv_bipush (v := 8) hx hb dc_X_number_23 (by decide) ?_
    refine vp_callSi (W.runV (As := [.int k, .int 8]) (rest := []) ⟨hx, hb, hml, hown, hw⟩ (ct_R_numberAt l Y (wc := [(hn, .inr (1, [.int (nI 10), .int (nI 2), .ref n1, .ref n2, .int (nI nr)])), (n1, .inl (Y.2.1.2.1, nc * 10, .inl fN)), (n2, .inl (Y.2.1.2.2, nc * 2, .inr (.inl gN)))]) ⟨n1, n2, fN, gN, rfl, okN⟩ k 8 _) (cwV 2 hw (zz_gV kw_509 kw_289 kw_290 kw_63 kw_291) rfl rfl rfl (by decide +kernel) ⟨Nat.le_of_ble_eq_true rfl, Nat.le_of_ble_eq_true rfl⟩) (zz_preV hK hG hA hP hD hS [7, 8, 9] rfl (by decide) rfl rfl) rfl rfl hl.1 rfl (lv_room (Nat.le_of_ble_eq_true rfl)) dc_X_number_25 ⟨Nat.le_of_ble_eq_true rfl, Nat.le_of_ble_eq_true rfl⟩) (fun r hr9 => ?_)
    subst hr9
    refine lv_goto (tgt := 32) hx hb dc_X_number_28 (by decide) ?_
    exact zz_iret0 hx hb hr rfl hlocks (by rw [zx_number, if_pos c_1]) dc_X_number_32

def zx_look (len : Nat) (dr : Nat) (nr : Nat) (fault : Int32) (fp : Int32) (which : Int32) : Int32 :=
  if which = 0 then nI len else if which = 1 then fault else if which = 2 then fp else if which = 3 then nI dr else if which = 4 then nI nr else (-1)
set_option maxHeartbeats 4000000 in
set_option maxRecDepth 100000 in
theorem ct_X_look (l : Launch) (Y : zz_Y) {h0 hp ht hd hn : Nat} {tx : Nat → Nat} {cap : Nat} {len : Nat} {next : Nat} {token : Int32} {place : Nat} {name : Int64} {word : Int32} {value : Int32} {dr : Nat} {dc : Nat} {dnum : Nat → Nat → Int32} {dnam : Nat → Nat → Int64} {nr : Nat} {nc : Nat} {nnum : Nat → Nat → Int32} {nnam : Nat → Nat → Int64} {fault : Int32} {fp : Int32} {stage : Int32} {latest : Int32} {op : Int32} {wa : Int32} {wc : va_W} (hok : zx_OK Y h0 hp ht hd hn tx cap len next token place name word value dr dc dnum dnam nr nc nnum nnam fault fp stage latest op wa wc) (which : Int32) : zz_I0 l Y yn_X_look bc_X_look 2 (some .int) { frames := 1, cells := 0, slots := 0, locals := 23 } [.ref h0, .int which] wc (fun r => r = zx_look len dr nr fault fp which) := by
  intro sz
  obtain ⟨_, rfl, tb, fB, d1, d2, fD, gD, n1, n2, fN, gN, rfl, okT, okD, okN⟩ := hok
  refine zz_of (cc := bc_X_look) (maxL := 2) (ret := (some .int)) (by decide) (Nat.le_of_ble_eq_true rfl) ?_
  intro p e s m below meth c A ls hsz C0 hl
  subst hsz
  obtain ⟨hx, hb, hr, hml, hlocks, hin, hown, hw, hAe, hA, hK, hG, hP, hD, hS⟩ := C0
  have hown : s.vm.findClass "TwoLevelParser" = some m.cls := hown
  have hl : lv_has ls 2 [(0, .ref h0), (1, .int which)] := hl
  refine lv_iload_n hx hb dc_X_look_0 rfl (lv_at hl 1 rfl) ?_
  by_cases c_1 : which = 0
  · skip
    refine lv_tableIn (tgt := 36) hx hb dc_X_look_1 (by rw [c_1]; decide) (by rw [c_1]; decide) (by rw [c_1]; rfl) (by decide) ?_
    refine lv_aload_n hx hb dc_X_look_36 rfl (lv_at hl 0 rfl) ?_
    refine va_get (D := Y.1) (ci := 3) (v := .ref hp) (C := rn_X) (T := tf_X) (N := 1) hx hb hw wi_X hown hK hP 0 rfl rfl 0 (by decide) (hw _ kw_183) (fun _ h9 => h9) rfl dc_X_look_37 ?_
    refine va_get (D := Y.1) (ci := 0) (v := .ref ht) (C := rn_P) (T := tf_P) (N := 9) hx hb hw wi_P hown hK hP 1 rfl rfl 0 (by decide) (hw _ kw_151) (fun _ h9 => h9) rfl dc_X_look_40 ?_
    refine vp_callSi (W.runV (As := []) (rest := []) ⟨hx, hb, hml, hown, hw⟩ (ct_T_size l Y (wc := [(ht, .inr (2, [.ref tb, .int (nI len), .int (nI next), .int token, .int (nI place), .long name, .int word, .int value])), (tb, .inl (Y.2.1.1, cap, .inl fB))]) ⟨tb, fB, rfl, okT⟩ _) (cwV 0 hw (zz_gV kw_535 kw_281 kw_282 kw_62 kw_283) rfl rfl rfl (by decide +kernel) ⟨Nat.le_of_ble_eq_true rfl, Nat.le_of_ble_eq_true rfl⟩) (zz_preV hK hG hA hP hD hS [2, 3] rfl (by decide) rfl rfl) rfl rfl hl.1 rfl (lv_room (Nat.le_of_ble_eq_true rfl)) dc_X_look_43 ⟨Nat.le_of_ble_eq_true rfl, Nat.le_of_ble_eq_true rfl⟩) (fun r hr9 => ?_)
    subst hr9
    exact zz_iret0 hx hb hr rfl hlocks (by rw [zx_look, if_pos c_1]) dc_X_look_46
  · skip
    by_cases c_2 : which = 1
    · skip
      refine lv_tableIn (tgt := 47) hx hb dc_X_look_1 (by rw [c_2]; decide) (by rw [c_2]; decide) (by rw [c_2]; rfl) (by decide) ?_
      refine lv_aload_n hx hb dc_X_look_47 rfl (lv_at hl 0 rfl) ?_
      refine va_get (D := Y.1) (ci := 3) (v := .ref hp) (C := rn_X) (T := tf_X) (N := 1) hx hb hw wi_X hown hK hP 0 rfl rfl 0 (by decide) (hw _ kw_183) (fun _ h9 => h9) rfl dc_X_look_48 ?_
      refine va_get (D := Y.1) (ci := 0) (v := .int fault) (C := rn_P) (T := tf_P) (N := 9) hx hb hw wi_P hown hK hP 1 rfl rfl 3 (by decide) (hw _ kw_157) (fun _ h9 => h9) rfl dc_X_look_51 ?_
      exact zz_iret0 hx hb hr rfl hlocks (by rw [zx_look, if_neg c_1, if_pos c_2]) dc_X_look_54
    · skip
      by_cases c_3 : which = 2
      · skip
        refine lv_tableIn (tgt := 55) hx hb dc_X_look_1 (by rw [c_3]; decide) (by rw [c_3]; decide) (by rw [c_3]; rfl) (by decide) ?_
        refine lv_aload_n hx hb dc_X_look_55 rfl (lv_at hl 0 rfl) ?_
        refine va_get (D := Y.1) (ci := 3) (v := .ref hp) (C := rn_X) (T := tf_X) (N := 1) hx hb hw wi_X hown hK hP 0 rfl rfl 0 (by decide) (hw _ kw_183) (fun _ h9 => h9) rfl dc_X_look_56 ?_
        refine va_get (D := Y.1) (ci := 0) (v := .int fp) (C := rn_P) (T := tf_P) (N := 9) hx hb hw wi_P hown hK hP 1 rfl rfl 4 (by decide) (hw _ kw_159) (fun _ h9 => h9) rfl dc_X_look_59 ?_
        exact zz_iret0 hx hb hr rfl hlocks (by rw [zx_look, if_neg c_1, if_neg c_2, if_pos c_3]) dc_X_look_62
      · skip
        by_cases c_4 : which = 3
        · skip
          refine lv_tableIn (tgt := 63) hx hb dc_X_look_1 (by rw [c_4]; decide) (by rw [c_4]; decide) (by rw [c_4]; rfl) (by decide) ?_
          refine lv_aload_n hx hb dc_X_look_63 rfl (lv_at hl 0 rfl) ?_
          refine va_get (D := Y.1) (ci := 3) (v := .ref hp) (C := rn_X) (T := tf_X) (N := 1) hx hb hw wi_X hown hK hP 0 rfl rfl 0 (by decide) (hw _ kw_183) (fun _ h9 => h9) rfl dc_X_look_64 ?_
          refine va_get (D := Y.1) (ci := 0) (v := .ref hd) (C := rn_P) (T := tf_P) (N := 9) hx hb hw wi_P hown hK hP 1 rfl rfl 1 (by decide) (hw _ kw_153) (fun _ h9 => h9) rfl dc_X_look_67 ?_
          refine vp_callSi (W.runV (As := []) (rest := []) ⟨hx, hb, hml, hown, hw⟩ (ct_R_size l Y (wc := [(hd, .inr (1, [.int (nI 13), .int (nI 9), .ref d1, .ref d2, .int (nI dr)])), (d1, .inl (Y.2.1.2.1, dc * 13, .inl fD)), (d2, .inl (Y.2.1.2.2, dc * 9, .inr (.inl gD)))]) ⟨d1, d2, fD, gD, rfl, okD⟩  _) (cwV 0 hw (zz_gV kw_536 kw_429 kw_430 kw_63 kw_431) rfl rfl rfl (by decide +kernel) ⟨Nat.le_of_ble_eq_true rfl, Nat.le_of_ble_eq_true rfl⟩) (zz_preV hK hG hA hP hD hS [4, 5, 6] rfl (by decide) rfl rfl) rfl rfl hl.1 rfl (lv_room (Nat.le_of_ble_eq_true rfl)) dc_X_look_70 ⟨Nat.le_of_ble_eq_true rfl, Nat.le_of_ble_eq_true rfl⟩) (fun r hr9 => ?_)
          subst hr9
          exact zz_iret0 hx hb hr rfl hlocks (by rw [zx_look, if_neg c_1, if_neg c_2, if_neg c_3, if_pos c_4]) dc_X_look_73
        · skip
          by_cases c_5 : which = 4
          · skip
            refine lv_tableIn (tgt := 74) hx hb dc_X_look_1 (by rw [c_5]; decide) (by rw [c_5]; decide) (by rw [c_5]; rfl) (by decide) ?_
            refine lv_aload_n hx hb dc_X_look_74 rfl (lv_at hl 0 rfl) ?_
            refine va_get (D := Y.1) (ci := 3) (v := .ref hp) (C := rn_X) (T := tf_X) (N := 1) hx hb hw wi_X hown hK hP 0 rfl rfl 0 (by decide) (hw _ kw_183) (fun _ h9 => h9) rfl dc_X_look_75 ?_
            refine va_get (D := Y.1) (ci := 0) (v := .ref hn) (C := rn_P) (T := tf_P) (N := 9) hx hb hw wi_P hown hK hP 1 rfl rfl 2 (by decide) (hw _ kw_155) (fun _ h9 => h9) rfl dc_X_look_78 ?_
            refine vp_callSi (W.runV (As := []) (rest := []) ⟨hx, hb, hml, hown, hw⟩ (ct_R_size l Y (wc := [(hn, .inr (1, [.int (nI 10), .int (nI 2), .ref n1, .ref n2, .int (nI nr)])), (n1, .inl (Y.2.1.2.1, nc * 10, .inl fN)), (n2, .inl (Y.2.1.2.2, nc * 2, .inr (.inl gN)))]) ⟨n1, n2, fN, gN, rfl, okN⟩  _) (cwV 0 hw (zz_gV kw_536 kw_429 kw_430 kw_63 kw_431) rfl rfl rfl (by decide +kernel) ⟨Nat.le_of_ble_eq_true rfl, Nat.le_of_ble_eq_true rfl⟩) (zz_preV hK hG hA hP hD hS [7, 8, 9] rfl (by decide) rfl rfl) rfl rfl hl.1 rfl (lv_room (Nat.le_of_ble_eq_true rfl)) dc_X_look_81 ⟨Nat.le_of_ble_eq_true rfl, Nat.le_of_ble_eq_true rfl⟩) (fun r hr9 => ?_)
            subst hr9
            exact zz_iret0 hx hb hr rfl hlocks (by rw [zx_look, if_neg c_1, if_neg c_2, if_neg c_3, if_neg c_4, if_pos c_5]) dc_X_look_84
          · skip
            refine lv_tableOut (tgt := 85) hx hb dc_X_look_1 (by have f0 := lv_neT (a := 0) c_1 (by decide); have f1 := lv_neT (a := 1) c_2 (by decide); have f2 := lv_neT (a := 2) c_3 (by decide); have f3 := lv_neT (a := 3) c_4 (by decide); have f4 := lv_neT (a := 4) c_5 (by decide); omega) (by decide) ?_
            refine lv_iconst (v := (-1)) hx hb dc_X_look_85 (by decide) ?_
            exact zz_iret0 hx hb hr rfl hlocks (by rw [zx_look, if_neg c_1, if_neg c_2, if_neg c_3, if_neg c_4, if_neg c_5]) dc_X_look_86

set_option maxHeartbeats 4000000 in
set_option maxRecDepth 100000 in
theorem ct_X_give (l : Launch) (Y : zz_Y) {h0 hp ht hd hn : Nat} {tx : Nat → Nat} {cap : Nat} {len : Nat} {next : Nat} {token : Int32} {place : Nat} {name : Int64} {word : Int32} {value : Int32} {dr : Nat} {dc : Nat} {dnum : Nat → Nat → Int32} {dnam : Nat → Nat → Int64} {nr : Nat} {nc : Nat} {nnum : Nat → Nat → Int32} {nnam : Nat → Nat → Int64} {fault : Int32} {fp : Int32} {stage : Int32} {latest : Int32} {op : Int32} {wa : Int32} {wc : va_W} (hok : zx_OK Y h0 hp ht hd hn tx cap len next token place name word value dr dc dnum dnam nr nc nnum nnam fault fp stage latest op wa wc) (v : Int64) (n : Int32) : zz_I l Y yn_X_give bc_X_give 4 (some .boolean) { frames := 3, cells := zt_apc cap len n - cap, slots := 2 * (zt_apc cap len n - cap), locals := 114 } [.ref h0, .long v, .int n] wc (fun r w1 => r = zz_b (zt_apb len n) ∧ zx_OK Y h0 hp ht hd hn (zt_apx tx len v n) (zt_apc cap len n) (zt_apl len n) next token place name word value dr dc dnum dnam nr nc nnum nnam fault fp stage latest op wa w1) := by
  intro sz
  obtain ⟨_, rfl, tb, fB, d1, d2, fD, gD, n1, n2, fN, gN, rfl, okT, okD, okN⟩ := hok
  refine zz_of (cc := bc_X_give) (maxL := 4) (ret := (some .boolean)) (by decide) (Nat.le_of_ble_eq_true rfl) ?_
  intro p e s m below meth c A ls hsz C0 hl
  subst hsz
  obtain ⟨hx, hb, hr, hml, hlocks, hin, hown, hw, hAe, hA, hK, hG, hP, hD, hS⟩ := C0
  have hown : s.vm.findClass "TwoLevelParser" = some m.cls := hown
  have hl : lv_has ls 4 [(0, .ref h0), (1, .long v), (3, .int n)] := hl
  refine lv_aload_n hx hb dc_X_give_0 rfl (lv_at hl 0 rfl) ?_
  refine va_get (D := Y.1) (ci := 3) (v := .ref hp) (C := rn_X) (T := tf_X) (N := 1) hx hb hw wi_X hown hK hP 0 rfl rfl 0 (by decide) (hw _ kw_183) (fun _ h9 => h9) rfl dc_X_give_1 ?_
  refine va_get (D := Y.1) (ci := 0) (v := .ref ht) (C := rn_P) (T := tf_P) (N := 9) hx hb hw wi_P hown hK hP 1 rfl rfl 0 (by decide) (hw _ kw_151) (fun _ h9 => h9) rfl dc_X_give_4 ?_
  refine lv_lload_n hx hb dc_X_give_7 rfl (lv_at hl 1 rfl) ?_
  refine lv_iload_n hx hb dc_X_give_8 rfl (lv_at hl 2 rfl) ?_
  refine zz_goI (wc := [(ht, .inr (2, [.ref tb, .int (nI len), .int (nI next), .int token, .int (nI place), .long name, .int word, .int value])), (tb, .inl (Y.2.1.1, cap, .inl fB))]) (wr := [(h0, .inr (3, [.ref hp])), (hp, .inr (0, [.ref ht, .ref hd, .ref hn, .int fault, .int fp, .int stage, .int latest, .int op, .int wa])), (hd, .inr (1, [.int (nI 13), .int (nI 9), .ref d1, .ref d2, .int (nI dr)])), (d1, .inl (Y.2.1.2.1, dc * 13, .inl fD)), (d2, .inl (Y.2.1.2.2, dc * 9, .inr (.inl gD))), (hn, .inr (1, [.int (nI 10), .int (nI 2), .ref n1, .ref n2, .int (nI nr)])), (n1, .inl (Y.2.1.2.1, nc * 10, .inl fN)), (n2, .inl (Y.2.1.2.2, nc * 2, .inr (.inl gN)))]) (va_runV (As := [.long v, .int n]) (rest := []) ⟨hx, hb, hml, hown, hw⟩ (ct_T_append l Y (wc := [(ht, .inr (2, [.ref tb, .int (nI len), .int (nI next), .int token, .int (nI place), .long name, .int word, .int value])), (tb, .inl (Y.2.1.1, cap, .inl fB))]) ⟨tb, fB, rfl, okT⟩ v n _) (cwV 2 hw (zz_gV kw_191 kw_192 kw_193 kw_62 kw_194) rfl rfl rfl (by decide +kernel) ⟨Nat.le_of_ble_eq_true rfl, Nat.le_of_ble_eq_true rfl⟩) (zz_preV hK hG hA hP hD hS [2, 3] rfl (by decide) rfl rfl) rfl rfl hl.1 rfl (lv_room (Nat.le_of_ble_eq_true rfl)) dc_X_give_9 ⟨Nat.le_of_eq (Nat.zero_add _), Nat.le_of_eq (Nat.zero_add _)⟩) hA hP hD hS [2, 3] [0, 1, 4, 5, 6, 7, 8, 9] rfl rfl (by decide) (by decide) (fun r w1 H locs hw1 hP hD hS => ?_)
  obtain ⟨rfl, tb2, fB2, rfl, okT2⟩ := hw1
  have hP : va_P Y.1 vwCl [(h0, .inr (3, [.ref hp])), (hp, .inr (0, [.ref ht, .ref hd, .ref hn, .int fault, .int fp, .int stage, .int latest, .int op, .int wa])), (hd, .inr (1, [.int (nI 13), .int (nI 9), .ref d1, .ref d2, .int (nI dr)])), (d1, .inl (Y.2.1.2.1, dc * 13, .inl fD)), (d2, .inl (Y.2.1.2.2, dc * 9, .inr (.inl gD))), (hn, .inr (1, [.int (nI 10), .int (nI 2), .ref n1, .ref n2, .int (nI nr)])), (n1, .inl (Y.2.1.2.1, nc * 10, .inl fN)), (n2, .inl (Y.2.1.2.2, nc * 2, .inr (.inl gN))), (ht, .inr (2, [.ref tb2, .int (nI (zt_apl len n)), .int (nI next), .int token, .int (nI place), .long name, .int word, .int value])), (tb2, .inl (Y.2.1.1, zt_apc cap len n, .inl fB2))] H := hP
  have hD : va_D A [(h0, .inr (3, [.ref hp])), (hp, .inr (0, [.ref ht, .ref hd, .ref hn, .int fault, .int fp, .int stage, .int latest, .int op, .int wa])), (hd, .inr (1, [.int (nI 13), .int (nI 9), .ref d1, .ref d2, .int (nI dr)])), (d1, .inl (Y.2.1.2.1, dc * 13, .inl fD)), (d2, .inl (Y.2.1.2.2, dc * 9, .inr (.inl gD))), (hn, .inr (1, [.int (nI 10), .int (nI 2), .ref n1, .ref n2, .int (nI nr)])), (n1, .inl (Y.2.1.2.1, nc * 10, .inl fN)), (n2, .inl (Y.2.1.2.2, nc * 2, .inr (.inl gN))), (ht, .inr (2, [.ref tb2, .int (nI (zt_apl len n)), .int (nI next), .int token, .int (nI place), .long name, .int word, .int value])), (tb2, .inl (Y.2.1.1, zt_apc cap len n, .inl fB2))] := hD
  exact zz_iret (w1 := [(h0, .inr (3, [.ref hp])), (hp, .inr (0, [.ref ht, .ref hd, .ref hn, .int fault, .int fp, .int stage, .int latest, .int op, .int wa])), (ht, .inr (2, [.ref tb2, .int (nI (zt_apl len n)), .int (nI next), .int token, .int (nI place), .long name, .int word, .int value])), (tb2, .inl (Y.2.1.1, zt_apc cap len n, .inl fB2)), (hd, .inr (1, [.int (nI 13), .int (nI 9), .ref d1, .ref d2, .int (nI dr)])), (d1, .inl (Y.2.1.2.1, dc * 13, .inl fD)), (d2, .inl (Y.2.1.2.2, dc * 9, .inr (.inl gD))), (hn, .inr (1, [.int (nI 10), .int (nI 2), .ref n1, .ref n2, .int (nI nr)])), (n1, .inl (Y.2.1.2.1, nc * 10, .inl fN)), (n2, .inl (Y.2.1.2.2, nc * 2, .inr (.inl gN)))]) hx hb hr (zz_nb _) hlocks hAe hP hD hS [0, 1, 8, 9, 2, 3, 4, 5, 6, 7] rfl (by decide) ⟨rfl, ⟨_, rfl, tb2, fB2, d1, d2, fD, gD, n1, n2, fN, gN, rfl, okT2, okD, okN⟩⟩ (Nat.le_of_eq (Nat.zero_add _)) (Nat.le_of_eq (Nat.zero_add _)) dc_X_give_12

set_option maxHeartbeats 4000000 in
set_option maxRecDepth 100000 in
theorem ct_X_wipe (l : Launch) (Y : zz_Y) {h0 hp ht hd hn : Nat} {tx : Nat → Nat} {cap : Nat} {len : Nat} {next : Nat} {token : Int32} {place : Nat} {name : Int64} {word : Int32} {value : Int32} {dr : Nat} {dc : Nat} {dnum : Nat → Nat → Int32} {dnam : Nat → Nat → Int64} {nr : Nat} {nc : Nat} {nnum : Nat → Nat → Int32} {nnam : Nat → Nat → Int64} {fault : Int32} {fp : Int32} {stage : Int32} {latest : Int32} {op : Int32} {wa : Int32} {wc : va_W} (hok : zx_OK Y h0 hp ht hd hn tx cap len next token place name word value dr dc dnum dnam nr nc nnum nnam fault fp stage latest op wa wc) : zz_V l Y yn_X_wipe bc_X_wipe 1 none { frames := 1, cells := 0, slots := 0, locals := 20 } [.ref h0] wc (fun w1 => zx_OK Y h0 hp ht hd hn tx cap 0 next token place name word value dr dc dnum dnam nr nc nnum nnam fault fp stage latest op wa w1) := by
  intro sz
  obtain ⟨_, rfl, tb, fB, d1, d2, fD, gD, n1, n2, fN, gN, rfl, okT, okD, okN⟩ := hok
  refine zz_of (cc := bc_X_wipe) (maxL := 1) (ret := none) (by decide) (Nat.le_of_ble_eq_true rfl) ?_
  intro p e s m below meth c A ls hsz C0 hl
  subst hsz
  obtain ⟨hx, hb, hr, hml, hlocks, hin, hown, hw, hAe, hA, hK, hG, hP, hD, hS⟩ := C0
  have hown : s.vm.findClass "TwoLevelParser" = some m.cls := hown
  have hl : lv_has ls 1 [(0, .ref h0)] := hl
  refine lv_aload_n hx hb dc_X_wipe_0 rfl (lv_at hl 0 rfl) ?_
  refine va_get (D := Y.1) (ci := 3) (v := .ref hp) (C := rn_X) (T := tf_X) (N := 1) hx hb hw wi_X hown hK hP 0 rfl rfl 0 (by decide) (hw _ kw_183) (fun _ h9 => h9) rfl dc_X_wipe_1 ?_
  refine va_get (D := Y.1) (ci := 0) (v := .ref ht) (C := rn_P) (T := tf_P) (N := 9) hx hb hw wi_P hown hK hP 1 rfl rfl 0 (by decide) (hw _ kw_151) (fun _ h9 => h9) rfl dc_X_wipe_4 ?_
  refine zz_goV (wc := [(ht, .inr (2, [.ref tb, .int (nI len), .int (nI next), .int token, .int (nI place), .long name, .int word, .int value])), (tb, .inl (Y.2.1.1, cap, .inl fB))]) (wr := [(h0, .inr (3, [.ref hp])), (hp, .inr (0, [.ref ht, .ref hd, .ref hn, .int fault, .int fp, .int stage, .int latest, .int op, .int wa])), (hd, .inr (1, [.int (nI 13), .int (nI 9), .ref d1, .ref d2, .int (nI dr)])), (d1, .inl (Y.2.1.2.1, dc * 13, .inl fD)), (d2, .inl (Y.2.1.2.2, dc * 9, .inr (.inl gD))), (hn, .inr (1, [.int (nI 10), .int (nI 2), .ref n1, .ref n2, .int (nI nr)])), (n1, .inl (Y.2.1.2.1, nc * 10, .inl fN)), (n2, .inl (Y.2.1.2.2, nc * 2, .inr (.inl gN)))]) (va_runV (As := []) (rest := []) ⟨hx, hb, hml, hown, hw⟩ (ct_T_clear l Y (wc := [(ht, .inr (2, [.ref tb, .int (nI len), .int (nI next), .int token, .int (nI place), .long name, .int word, .int value])), (tb, .inl (Y.2.1.1, cap, .inl fB))]) ⟨tb, fB, rfl, okT⟩ tx _) (cwV 0 hw (zz_gV kw_215 kw_216 kw_217 kw_62 kw_218) rfl rfl rfl (by decide +kernel) ⟨Nat.le_of_ble_eq_true rfl, Nat.le_of_ble_eq_true rfl⟩) (zz_preV hK hG hA hP hD hS [2, 3] rfl (by decide) rfl rfl) rfl rfl hl.1 rfl (lv_room (Nat.le_of_ble_eq_true rfl)) dc_X_wipe_7 ⟨Nat.le_of_ble_eq_true rfl, Nat.le_of_ble_eq_true rfl⟩) hA hP hD hS [2, 3] [0, 1, 4, 5, 6, 7, 8, 9] rfl rfl (by decide) (by decide) (fun w1 H locs hw1 hP hD hS => ?_)
  obtain ⟨tb2, fB2, rfl, okT2⟩ := hw1
  have hP : va_P Y.1 vwCl [(h0, .inr (3, [.ref hp])), (hp, .inr (0, [.ref ht, .ref hd, .ref hn, .int fault, .int fp, .int stage, .int latest, .int op, .int wa])), (hd, .inr (1, [.int (nI 13), .int (nI 9), .ref d1, .ref d2, .int (nI dr)])), (d1, .inl (Y.2.1.2.1, dc * 13, .inl fD)), (d2, .inl (Y.2.1.2.2, dc * 9, .inr (.inl gD))), (hn, .inr (1, [.int (nI 10), .int (nI 2), .ref n1, .ref n2, .int (nI nr)])), (n1, .inl (Y.2.1.2.1, nc * 10, .inl fN)), (n2, .inl (Y.2.1.2.2, nc * 2, .inr (.inl gN))), (ht, .inr (2, [.ref tb2, .int (nI 0), .int (nI next), .int token, .int (nI place), .long name, .int word, .int value])), (tb2, .inl (Y.2.1.1, cap, .inl fB2))] H := hP
  have hD : va_D A [(h0, .inr (3, [.ref hp])), (hp, .inr (0, [.ref ht, .ref hd, .ref hn, .int fault, .int fp, .int stage, .int latest, .int op, .int wa])), (hd, .inr (1, [.int (nI 13), .int (nI 9), .ref d1, .ref d2, .int (nI dr)])), (d1, .inl (Y.2.1.2.1, dc * 13, .inl fD)), (d2, .inl (Y.2.1.2.2, dc * 9, .inr (.inl gD))), (hn, .inr (1, [.int (nI 10), .int (nI 2), .ref n1, .ref n2, .int (nI nr)])), (n1, .inl (Y.2.1.2.1, nc * 10, .inl fN)), (n2, .inl (Y.2.1.2.2, nc * 2, .inr (.inl gN))), (ht, .inr (2, [.ref tb2, .int (nI 0), .int (nI next), .int token, .int (nI place), .long name, .int word, .int value])), (tb2, .inl (Y.2.1.1, cap, .inl fB2))] := hD
  exact zz_vret (w1 := [(h0, .inr (3, [.ref hp])), (hp, .inr (0, [.ref ht, .ref hd, .ref hn, .int fault, .int fp, .int stage, .int latest, .int op, .int wa])), (ht, .inr (2, [.ref tb2, .int (nI 0), .int (nI next), .int token, .int (nI place), .long name, .int word, .int value])), (tb2, .inl (Y.2.1.1, cap, .inl fB2)), (hd, .inr (1, [.int (nI 13), .int (nI 9), .ref d1, .ref d2, .int (nI dr)])), (d1, .inl (Y.2.1.2.1, dc * 13, .inl fD)), (d2, .inl (Y.2.1.2.2, dc * 9, .inr (.inl gD))), (hn, .inr (1, [.int (nI 10), .int (nI 2), .ref n1, .ref n2, .int (nI nr)])), (n1, .inl (Y.2.1.2.1, nc * 10, .inl fN)), (n2, .inl (Y.2.1.2.2, nc * 2, .inr (.inl gN)))]) hx hb hr hlocks hAe hP hD hS [0, 1, 8, 9, 2, 3, 4, 5, 6, 7] rfl (by decide) ⟨_, rfl, tb2, fB2, d1, d2, fD, gD, n1, n2, fN, gN, rfl, okT2, okD, okN⟩ (Nat.le_refl _) (Nat.le_refl _) dc_X_wipe_10

set_option maxHeartbeats 4000000 in
set_option maxRecDepth 100000 in
theorem ct_X_read (l : Launch) (Y : zz_Y) {h0 hp ht hd hn : Nat} {tx : Nat → Nat} {cap : Nat} {len : Nat} {next : Nat} {token : Int32} {place : Nat} {name : Int64} {word : Int32} {value : Int32} {dr : Nat} {dc : Nat} {dnum : Nat → Nat → Int32} {dnam : Nat → Nat → Int64} {nr : Nat} {nc : Nat} {nnum : Nat → Nat → Int32} {nnam : Nat → Nat → Int64} {fault : Int32} {fp : Int32} {stage : Int32} {latest : Int32} {op : Int32} {wa : Int32} {wc : va_W} (hok : zx_OK Y h0 hp ht hd hn tx cap len next token place name word value dr dc dnum dnam nr nc nnum nnam fault fp stage latest op wa wc) : zz_I l Y yn_X_read bc_X_read 1 (some .int) { frames := 7, cells := 2 * ((zp_FIN tx len name word value dc dnum dnam nc nnum nnam wa).2.2.2.2.2.2.2.1 - dc) + 2 * ((zp_FIN tx len name word value dc dnum dnam nc nnum nnam wa).2.2.2.2.2.2.2.2.2.2.2.1 - nc), slots := 2 * ((zp_FIN tx len name word value dc dnum dnam nc nnum nnam wa).2.2.2.2.2.2.2.1 - dc) * 22 + 2 * ((zp_FIN tx len name word value dc dnum dnam nc nnum nnam wa).2.2.2.2.2.2.2.2.2.2.2.1 - nc) * 12, locals := 192 } [.ref h0] wc (fun r w1 => r = (zp_fin ((zp_FIN tx len name word value dc dnum dnam nc nnum nnam wa).2.2.1) ((zp_FIN tx len name word value dc dnum dnam nc nnum nnam wa).2.2.2.2.2.2.1) ((zp_FIN tx len name word value dc dnum dnam nc nnum nnam wa).2.2.2.2.2.2.2.2.2.2.1) ((zp_FIN tx len name word value dc dnum dnam nc nnum nnam wa).2.2.2.2.2.2.2.2.2.2.2.2.2.2.1) ((zp_start tx len name word value).2.2.2.2.2.2.2.2.2.1) ((zp_FIN tx len name word value dc dnum dnam nc nnum nnam wa).2.2.2.2.2.2.2.2.2.2.2.2.2.2.2.1)).1 ∧ zx_OK Y h0 hp ht hd hn tx cap len ((zp_FIN tx len name word value dc dnum dnam nc nnum nnam wa).1) ((zp_FIN tx len name word value dc dnum dnam nc nnum nnam wa).2.1) ((zp_FIN tx len name word value dc dnum dnam nc nnum nnam wa).2.2.1) ((zp_FIN tx len name word value dc dnum dnam nc nnum nnam wa).2.2.2.1) ((zp_FIN tx len name word value dc dnum dnam nc nnum nnam wa).2.2.2.2.1) ((zp_FIN tx len name word value dc dnum dnam nc nnum nnam wa).2.2.2.2.2.1) ((zp_fin ((zp_FIN tx len name word value dc dnum dnam nc nnum nnam wa).2.2.1) ((zp_FIN tx len name word value dc dnum dnam nc nnum nnam wa).2.2.2.2.2.2.1) ((zp_FIN tx len name word value dc dnum dnam nc nnum nnam wa).2.2.2.2.2.2.2.2.2.2.1) ((zp_FIN tx len name word value dc dnum dnam nc nnum nnam wa).2.2.2.2.2.2.2.2.2.2.2.2.2.2.1) ((zp_start tx len name word value).2.2.2.2.2.2.2.2.2.1) ((zp_FIN tx len name word value dc dnum dnam nc nnum nnam wa).2.2.2.2.2.2.2.2.2.2.2.2.2.2.2.1)).2.2.1) ((zp_FIN tx len name word value dc dnum dnam nc nnum nnam wa).2.2.2.2.2.2.2.1) ((zp_FIN tx len name word value dc dnum dnam nc nnum nnam wa).2.2.2.2.2.2.2.2.1) ((zp_FIN tx len name word value dc dnum dnam nc nnum nnam wa).2.2.2.2.2.2.2.2.2.1) ((zp_fin ((zp_FIN tx len name word value dc dnum dnam nc nnum nnam wa).2.2.1) ((zp_FIN tx len name word value dc dnum dnam nc nnum nnam wa).2.2.2.2.2.2.1) ((zp_FIN tx len name word value dc dnum dnam nc nnum nnam wa).2.2.2.2.2.2.2.2.2.2.1) ((zp_FIN tx len name word value dc dnum dnam nc nnum nnam wa).2.2.2.2.2.2.2.2.2.2.2.2.2.2.1) ((zp_start tx len name word value).2.2.2.2.2.2.2.2.2.1) ((zp_FIN tx len name word value dc dnum dnam nc nnum nnam wa).2.2.2.2.2.2.2.2.2.2.2.2.2.2.2.1)).2.2.2) ((zp_FIN tx len name word value dc dnum dnam nc nnum nnam wa).2.2.2.2.2.2.2.2.2.2.2.1) ((zp_FIN tx len name word value dc dnum dnam nc nnum nnam wa).2.2.2.2.2.2.2.2.2.2.2.2.1) ((zp_FIN tx len name word value dc dnum dnam nc nnum nnam wa).2.2.2.2.2.2.2.2.2.2.2.2.2.1) ((zp_fin ((zp_FIN tx len name word value dc dnum dnam nc nnum nnam wa).2.2.1) ((zp_FIN tx len name word value dc dnum dnam nc nnum nnam wa).2.2.2.2.2.2.1) ((zp_FIN tx len name word value dc dnum dnam nc nnum nnam wa).2.2.2.2.2.2.2.2.2.2.1) ((zp_FIN tx len name word value dc dnum dnam nc nnum nnam wa).2.2.2.2.2.2.2.2.2.2.2.2.2.2.1) ((zp_start tx len name word value).2.2.2.2.2.2.2.2.2.1) ((zp_FIN tx len name word value dc dnum dnam nc nnum nnam wa).2.2.2.2.2.2.2.2.2.2.2.2.2.2.2.1)).1) ((zp_fin ((zp_FIN tx len name word value dc dnum dnam nc nnum nnam wa).2.2.1) ((zp_FIN tx len name word value dc dnum dnam nc nnum nnam wa).2.2.2.2.2.2.1) ((zp_FIN tx len name word value dc dnum dnam nc nnum nnam wa).2.2.2.2.2.2.2.2.2.2.1) ((zp_FIN tx len name word value dc dnum dnam nc nnum nnam wa).2.2.2.2.2.2.2.2.2.2.2.2.2.2.1) ((zp_start tx len name word value).2.2.2.2.2.2.2.2.2.1) ((zp_FIN tx len name word value dc dnum dnam nc nnum nnam wa).2.2.2.2.2.2.2.2.2.2.2.2.2.2.2.1)).2.1) ((zp_FIN tx len name word value dc dnum dnam nc nnum nnam wa).2.2.2.2.2.2.2.2.2.2.2.2.2.2.2.1) ((zp_FIN tx len name word value dc dnum dnam nc nnum nnam wa).2.2.2.2.2.2.2.2.2.2.2.2.2.2.2.2.1) ((zp_FIN tx len name word value dc dnum dnam nc nnum nnam wa).2.2.2.2.2.2.2.2.2.2.2.2.2.2.2.2.2.1) ((zp_FIN tx len name word value dc dnum dnam nc nnum nnam wa).2.2.2.2.2.2.2.2.2.2.2.2.2.2.2.2.2.2) w1) := by
  intro sz
  obtain ⟨_, rfl, tb, fB, d1, d2, fD, gD, n1, n2, fN, gN, rfl, okT, okD, okN⟩ := hok
  refine zz_of (cc := bc_X_read) (maxL := 1) (ret := (some .int)) (by decide) (Nat.le_of_ble_eq_true rfl) ?_
  intro p e s m below meth c A ls hsz C0 hl
  subst hsz
  obtain ⟨hx, hb, hr, hml, hlocks, hin, hown, hw, hAe, hA, hK, hG, hP, hD, hS⟩ := C0
  have hown : s.vm.findClass "TwoLevelParser" = some m.cls := hown
  have hl : lv_has ls 1 [(0, .ref h0)] := hl
  refine lv_aload_n hx hb dc_X_read_0 rfl (lv_at hl 0 rfl) ?_
  refine va_get (D := Y.1) (ci := 3) (v := .ref hp) (C := rn_X) (T := tf_X) (N := 1) hx hb hw wi_X hown hK hP 0 rfl rfl 0 (by decide) (hw _ kw_183) (fun _ h9 => h9) rfl dc_X_read_1 ?_
  refine zz_goI (wc := [(hp, .inr (0, [.ref ht, .ref hd, .ref hn, .int fault, .int fp, .int stage, .int latest, .int op, .int wa])), (ht, .inr (2, [.ref tb, .int (nI len), .int (nI next), .int token, .int (nI place), .long name, .int word, .int value])), (tb, .inl (Y.2.1.1, cap, .inl fB)), (hd, .inr (1, [.int (nI 13), .int (nI 9), .ref d1, .ref d2, .int (nI dr)])), (d1, .inl (Y.2.1.2.1, dc * 13, .inl fD)), (d2, .inl (Y.2.1.2.2, dc * 9, .inr (.inl gD))), (hn, .inr (1, [.int (nI 10), .int (nI 2), .ref n1, .ref n2, .int (nI nr)])), (n1, .inl (Y.2.1.2.1, nc * 10, .inl fN)), (n2, .inl (Y.2.1.2.2, nc * 2, .inr (.inl gN)))]) (wr := [(h0, .inr (3, [.ref hp]))]) (va_runV (As := []) (rest := []) ⟨hx, hb, hml, hown, hw⟩ (ct_P_parse l Y (wc := [(hp, .inr (0, [.ref ht, .ref hd, .ref hn, .int fault, .int fp, .int stage, .int latest, .int op, .int wa])), (ht, .inr (2, [.ref tb, .int (nI len), .int (nI next), .int token, .int (nI place), .long name, .int word, .int value])), (tb, .inl (Y.2.1.1, cap, .inl fB)), (hd, .inr (1, [.int (nI 13), .int (nI 9), .ref d1, .ref d2, .int (nI dr)])), (d1, .inl (Y.2.1.2.1, dc * 13, .inl fD)), (d2, .inl (Y.2.1.2.2, dc * 9, .inr (.inl gD))), (hn, .inr (1, [.int (nI 10), .int (nI 2), .ref n1, .ref n2, .int (nI nr)])), (n1, .inl (Y.2.1.2.1, nc * 10, .inl fN)), (n2, .inl (Y.2.1.2.2, nc * 2, .inr (.inl gN)))]) ⟨tb, fB, d1, d2, fD, gD, n1, n2, fN, gN, rfl, okT, okD, okN⟩ _) (cwV 0 hw (zz_gV kw_223 kw_224 kw_225 kw_61 kw_226) rfl rfl rfl (by decide +kernel) ⟨Nat.le_of_ble_eq_true rfl, Nat.le_of_ble_eq_true rfl⟩) (zz_preV hK hG hA hP hD hS [1, 2, 3, 4, 5, 6, 7, 8, 9] rfl (by decide) rfl rfl) rfl rfl hl.1 rfl (lv_room (Nat.le_of_ble_eq_true rfl)) dc_X_read_4 ⟨Nat.le_of_eq (Nat.zero_add _), Nat.le_of_eq (Nat.zero_add _)⟩) hA hP hD hS [1, 2, 3, 4, 5, 6, 7, 8, 9] [0] rfl rfl (by decide) (by decide) (fun r w1 H locs hw1 hP hD hS => ?_)
  obtain ⟨rfl, tb', fB', d1', d2', fD', gD', n1', n2', fN', gN', rfl, okT', okD', okN'⟩ := hw1
  have hP : va_P Y.1 vwCl [(h0, .inr (3, [.ref hp])), (hp, .inr (0, [.ref ht, .ref hd, .ref hn, .int ((zp_fin ((zp_FIN tx len name word value dc dnum dnam nc nnum nnam wa).2.2.1) ((zp_FIN tx len name word value dc dnum dnam nc nnum nnam wa).2.2.2.2.2.2.1) ((zp_FIN tx len name word value dc dnum dnam nc nnum nnam wa).2.2.2.2.2.2.2.2.2.2.1) ((zp_FIN tx len name word value dc dnum dnam nc nnum nnam wa).2.2.2.2.2.2.2.2.2.2.2.2.2.2.1) ((zp_start tx len name word value).2.2.2.2.2.2.2.2.2.1) ((zp_FIN tx len name word value dc dnum dnam nc nnum nnam wa).2.2.2.2.2.2.2.2.2.2.2.2.2.2.2.1)).1), .int ((zp_fin ((zp_FIN tx len name word value dc dnum dnam nc nnum nnam wa).2.2.1) ((zp_FIN tx len name word value dc dnum dnam nc nnum nnam wa).2.2.2.2.2.2.1) ((zp_FIN tx len name word value dc dnum dnam nc nnum nnam wa).2.2.2.2.2.2.2.2.2.2.1) ((zp_FIN tx len name word value dc dnum dnam nc nnum nnam wa).2.2.2.2.2.2.2.2.2.2.2.2.2.2.1) ((zp_start tx len name word value).2.2.2.2.2.2.2.2.2.1) ((zp_FIN tx len name word value dc dnum dnam nc nnum nnam wa).2.2.2.2.2.2.2.2.2.2.2.2.2.2.2.1)).2.1), .int ((zp_FIN tx len name word value dc dnum dnam nc nnum nnam wa).2.2.2.2.2.2.2.2.2.2.2.2.2.2.2.1), .int ((zp_FIN tx len name word value dc dnum dnam nc nnum nnam wa).2.2.2.2.2.2.2.2.2.2.2.2.2.2.2.2.1), .int ((zp_FIN tx len name word value dc dnum dnam nc nnum nnam wa).2.2.2.2.2.2.2.2.2.2.2.2.2.2.2.2.2.1), .int ((zp_FIN tx len name word value dc dnum dnam nc nnum nnam wa).2.2.2.2.2.2.2.2.2.2.2.2.2.2.2.2.2.2)])), (ht, .inr (2, [.ref tb', .int (nI len), .int (nI ((zp_FIN tx len name word value dc dnum dnam nc nnum nnam wa).1)), .int ((zp_FIN tx len name word value dc dnum dnam nc nnum nnam wa).2.1), .int (nI ((zp_FIN tx len name word value dc dnum dnam nc nnum nnam wa).2.2.1)), .long ((zp_FIN tx len name word value dc dnum dnam nc nnum nnam wa).2.2.2.1), .int ((zp_FIN tx len name word value dc dnum dnam nc nnum nnam wa).2.2.2.2.1), .int ((zp_FIN tx len name word value dc dnum dnam nc nnum nnam wa).2.2.2.2.2.1)])), (tb', .inl (Y.2.1.1, cap, .inl fB')), (hd, .inr (1, [.int (nI 13), .int (nI 9), .ref d1', .ref d2', .int (nI ((zp_fin ((zp_FIN tx len name word value dc dnum dnam nc nnum nnam wa).2.2.1) ((zp_FIN tx len name word value dc dnum dnam nc nnum nnam wa).2.2.2.2.2.2.1) ((zp_FIN tx len name word value dc dnum dnam nc nnum nnam wa).2.2.2.2.2.2.2.2.2.2.1) ((zp_FIN tx len name word value dc dnum dnam nc nnum nnam wa).2.2.2.2.2.2.2.2.2.2.2.2.2.2.1) ((zp_start tx len name word value).2.2.2.2.2.2.2.2.2.1) ((zp_FIN tx len name word value dc dnum dnam nc nnum nnam wa).2.2.2.2.2.2.2.2.2.2.2.2.2.2.2.1)).2.2.1))])), (d1', .inl (Y.2.1.2.1, ((zp_FIN tx len name word value dc dnum dnam nc nnum nnam wa).2.2.2.2.2.2.2.1) * 13, .inl fD')), (d2', .inl (Y.2.1.2.2, ((zp_FIN tx len name word value dc dnum dnam nc nnum nnam wa).2.2.2.2.2.2.2.1) * 9, .inr (.inl gD'))), (hn, .inr (1, [.int (nI 10), .int (nI 2), .ref n1', .ref n2', .int (nI ((zp_fin ((zp_FIN tx len name word value dc dnum dnam nc nnum nnam wa).2.2.1) ((zp_FIN tx len name word value dc dnum dnam nc nnum nnam wa).2.2.2.2.2.2.1) ((zp_FIN tx len name word value dc dnum dnam nc nnum nnam wa).2.2.2.2.2.2.2.2.2.2.1) ((zp_FIN tx len name word value dc dnum dnam nc nnum nnam wa).2.2.2.2.2.2.2.2.2.2.2.2.2.2.1) ((zp_start tx len name word value).2.2.2.2.2.2.2.2.2.1) ((zp_FIN tx len name word value dc dnum dnam nc nnum nnam wa).2.2.2.2.2.2.2.2.2.2.2.2.2.2.2.1)).2.2.2))])), (n1', .inl (Y.2.1.2.1, ((zp_FIN tx len name word value dc dnum dnam nc nnum nnam wa).2.2.2.2.2.2.2.2.2.2.2.1) * 10, .inl fN')), (n2', .inl (Y.2.1.2.2, ((zp_FIN tx len name word value dc dnum dnam nc nnum nnam wa).2.2.2.2.2.2.2.2.2.2.2.1) * 2, .inr (.inl gN')))] H := hP
  have hD : va_D A [(h0, .inr (3, [.ref hp])), (hp, .inr (0, [.ref ht, .ref hd, .ref hn, .int ((zp_fin ((zp_FIN tx len name word value dc dnum dnam nc nnum nnam wa).2.2.1) ((zp_FIN tx len name word value dc dnum dnam nc nnum nnam wa).2.2.2.2.2.2.1) ((zp_FIN tx len name word value dc dnum dnam nc nnum nnam wa).2.2.2.2.2.2.2.2.2.2.1) ((zp_FIN tx len name word value dc dnum dnam nc nnum nnam wa).2.2.2.2.2.2.2.2.2.2.2.2.2.2.1) ((zp_start tx len name word value).2.2.2.2.2.2.2.2.2.1) ((zp_FIN tx len name word value dc dnum dnam nc nnum nnam wa).2.2.2.2.2.2.2.2.2.2.2.2.2.2.2.1)).1), .int ((zp_fin ((zp_FIN tx len name word value dc dnum dnam nc nnum nnam wa).2.2.1) ((zp_FIN tx len name word value dc dnum dnam nc nnum nnam wa).2.2.2.2.2.2.1) ((zp_FIN tx len name word value dc dnum dnam nc nnum nnam wa).2.2.2.2.2.2.2.2.2.2.1) ((zp_FIN tx len name word value dc dnum dnam nc nnum nnam wa).2.2.2.2.2.2.2.2.2.2.2.2.2.2.1) ((zp_start tx len name word value).2.2.2.2.2.2.2.2.2.1) ((zp_FIN tx len name word value dc dnum dnam nc nnum nnam wa).2.2.2.2.2.2.2.2.2.2.2.2.2.2.2.1)).2.1), .int ((zp_FIN tx len name word value dc dnum dnam nc nnum nnam wa).2.2.2.2.2.2.2.2.2.2.2.2.2.2.2.1), .int ((zp_FIN tx len name word value dc dnum dnam nc nnum nnam wa).2.2.2.2.2.2.2.2.2.2.2.2.2.2.2.2.1), .int ((zp_FIN tx len name word value dc dnum dnam nc nnum nnam wa).2.2.2.2.2.2.2.2.2.2.2.2.2.2.2.2.2.1), .int ((zp_FIN tx len name word value dc dnum dnam nc nnum nnam wa).2.2.2.2.2.2.2.2.2.2.2.2.2.2.2.2.2.2)])), (ht, .inr (2, [.ref tb', .int (nI len), .int (nI ((zp_FIN tx len name word value dc dnum dnam nc nnum nnam wa).1)), .int ((zp_FIN tx len name word value dc dnum dnam nc nnum nnam wa).2.1), .int (nI ((zp_FIN tx len name word value dc dnum dnam nc nnum nnam wa).2.2.1)), .long ((zp_FIN tx len name word value dc dnum dnam nc nnum nnam wa).2.2.2.1), .int ((zp_FIN tx len name word value dc dnum dnam nc nnum nnam wa).2.2.2.2.1), .int ((zp_FIN tx len name word value dc dnum dnam nc nnum nnam wa).2.2.2.2.2.1)])), (tb', .inl (Y.2.1.1, cap, .inl fB')), (hd, .inr (1, [.int (nI 13), .int (nI 9), .ref d1', .ref d2', .int (nI ((zp_fin ((zp_FIN tx len name word value dc dnum dnam nc nnum nnam wa).2.2.1) ((zp_FIN tx len name word value dc dnum dnam nc nnum nnam wa).2.2.2.2.2.2.1) ((zp_FIN tx len name word value dc dnum dnam nc nnum nnam wa).2.2.2.2.2.2.2.2.2.2.1) ((zp_FIN tx len name word value dc dnum dnam nc nnum nnam wa).2.2.2.2.2.2.2.2.2.2.2.2.2.2.1) ((zp_start tx len name word value).2.2.2.2.2.2.2.2.2.1) ((zp_FIN tx len name word value dc dnum dnam nc nnum nnam wa).2.2.2.2.2.2.2.2.2.2.2.2.2.2.2.1)).2.2.1))])), (d1', .inl (Y.2.1.2.1, ((zp_FIN tx len name word value dc dnum dnam nc nnum nnam wa).2.2.2.2.2.2.2.1) * 13, .inl fD')), (d2', .inl (Y.2.1.2.2, ((zp_FIN tx len name word value dc dnum dnam nc nnum nnam wa).2.2.2.2.2.2.2.1) * 9, .inr (.inl gD'))), (hn, .inr (1, [.int (nI 10), .int (nI 2), .ref n1', .ref n2', .int (nI ((zp_fin ((zp_FIN tx len name word value dc dnum dnam nc nnum nnam wa).2.2.1) ((zp_FIN tx len name word value dc dnum dnam nc nnum nnam wa).2.2.2.2.2.2.1) ((zp_FIN tx len name word value dc dnum dnam nc nnum nnam wa).2.2.2.2.2.2.2.2.2.2.1) ((zp_FIN tx len name word value dc dnum dnam nc nnum nnam wa).2.2.2.2.2.2.2.2.2.2.2.2.2.2.1) ((zp_start tx len name word value).2.2.2.2.2.2.2.2.2.1) ((zp_FIN tx len name word value dc dnum dnam nc nnum nnam wa).2.2.2.2.2.2.2.2.2.2.2.2.2.2.2.1)).2.2.2))])), (n1', .inl (Y.2.1.2.1, ((zp_FIN tx len name word value dc dnum dnam nc nnum nnam wa).2.2.2.2.2.2.2.2.2.2.2.1) * 10, .inl fN')), (n2', .inl (Y.2.1.2.2, ((zp_FIN tx len name word value dc dnum dnam nc nnum nnam wa).2.2.2.2.2.2.2.2.2.2.2.1) * 2, .inr (.inl gN')))] := hD
  exact zz_iret (w1 := [(h0, .inr (3, [.ref hp])), (hp, .inr (0, [.ref ht, .ref hd, .ref hn, .int ((zp_fin ((zp_FIN tx len name word value dc dnum dnam nc nnum nnam wa).2.2.1) ((zp_FIN tx len name word value dc dnum dnam nc nnum nnam wa).2.2.2.2.2.2.1) ((zp_FIN tx len name word value dc dnum dnam nc nnum nnam wa).2.2.2.2.2.2.2.2.2.2.1) ((zp_FIN tx len name word value dc dnum dnam nc nnum nnam wa).2.2.2.2.2.2.2.2.2.2.2.2.2.2.1) ((zp_start tx len name word value).2.2.2.2.2.2.2.2.2.1) ((zp_FIN tx len name word value dc dnum dnam nc nnum nnam wa).2.2.2.2.2.2.2.2.2.2.2.2.2.2.2.1)).1), .int ((zp_fin ((zp_FIN tx len name word value dc dnum dnam nc nnum nnam wa).2.2.1) ((zp_FIN tx len name word value dc dnum dnam nc nnum nnam wa).2.2.2.2.2.2.1) ((zp_FIN tx len name word value dc dnum dnam nc nnum nnam wa).2.2.2.2.2.2.2.2.2.2.1) ((zp_FIN tx len name word value dc dnum dnam nc nnum nnam wa).2.2.2.2.2.2.2.2.2.2.2.2.2.2.1) ((zp_start tx len name word value).2.2.2.2.2.2.2.2.2.1) ((zp_FIN tx len name word value dc dnum dnam nc nnum nnam wa).2.2.2.2.2.2.2.2.2.2.2.2.2.2.2.1)).2.1), .int ((zp_FIN tx len name word value dc dnum dnam nc nnum nnam wa).2.2.2.2.2.2.2.2.2.2.2.2.2.2.2.1), .int ((zp_FIN tx len name word value dc dnum dnam nc nnum nnam wa).2.2.2.2.2.2.2.2.2.2.2.2.2.2.2.2.1), .int ((zp_FIN tx len name word value dc dnum dnam nc nnum nnam wa).2.2.2.2.2.2.2.2.2.2.2.2.2.2.2.2.2.1), .int ((zp_FIN tx len name word value dc dnum dnam nc nnum nnam wa).2.2.2.2.2.2.2.2.2.2.2.2.2.2.2.2.2.2)])), (ht, .inr (2, [.ref tb', .int (nI len), .int (nI ((zp_FIN tx len name word value dc dnum dnam nc nnum nnam wa).1)), .int ((zp_FIN tx len name word value dc dnum dnam nc nnum nnam wa).2.1), .int (nI ((zp_FIN tx len name word value dc dnum dnam nc nnum nnam wa).2.2.1)), .long ((zp_FIN tx len name word value dc dnum dnam nc nnum nnam wa).2.2.2.1), .int ((zp_FIN tx len name word value dc dnum dnam nc nnum nnam wa).2.2.2.2.1), .int ((zp_FIN tx len name word value dc dnum dnam nc nnum nnam wa).2.2.2.2.2.1)])), (tb', .inl (Y.2.1.1, cap, .inl fB')), (hd, .inr (1, [.int (nI 13), .int (nI 9), .ref d1', .ref d2', .int (nI ((zp_fin ((zp_FIN tx len name word value dc dnum dnam nc nnum nnam wa).2.2.1) ((zp_FIN tx len name word value dc dnum dnam nc nnum nnam wa).2.2.2.2.2.2.1) ((zp_FIN tx len name word value dc dnum dnam nc nnum nnam wa).2.2.2.2.2.2.2.2.2.2.1) ((zp_FIN tx len name word value dc dnum dnam nc nnum nnam wa).2.2.2.2.2.2.2.2.2.2.2.2.2.2.1) ((zp_start tx len name word value).2.2.2.2.2.2.2.2.2.1) ((zp_FIN tx len name word value dc dnum dnam nc nnum nnam wa).2.2.2.2.2.2.2.2.2.2.2.2.2.2.2.1)).2.2.1))])), (d1', .inl (Y.2.1.2.1, ((zp_FIN tx len name word value dc dnum dnam nc nnum nnam wa).2.2.2.2.2.2.2.1) * 13, .inl fD')), (d2', .inl (Y.2.1.2.2, ((zp_FIN tx len name word value dc dnum dnam nc nnum nnam wa).2.2.2.2.2.2.2.1) * 9, .inr (.inl gD'))), (hn, .inr (1, [.int (nI 10), .int (nI 2), .ref n1', .ref n2', .int (nI ((zp_fin ((zp_FIN tx len name word value dc dnum dnam nc nnum nnam wa).2.2.1) ((zp_FIN tx len name word value dc dnum dnam nc nnum nnam wa).2.2.2.2.2.2.1) ((zp_FIN tx len name word value dc dnum dnam nc nnum nnam wa).2.2.2.2.2.2.2.2.2.2.1) ((zp_FIN tx len name word value dc dnum dnam nc nnum nnam wa).2.2.2.2.2.2.2.2.2.2.2.2.2.2.1) ((zp_start tx len name word value).2.2.2.2.2.2.2.2.2.1) ((zp_FIN tx len name word value dc dnum dnam nc nnum nnam wa).2.2.2.2.2.2.2.2.2.2.2.2.2.2.2.1)).2.2.2))])), (n1', .inl (Y.2.1.2.1, ((zp_FIN tx len name word value dc dnum dnam nc nnum nnam wa).2.2.2.2.2.2.2.2.2.2.2.1) * 10, .inl fN')), (n2', .inl (Y.2.1.2.2, ((zp_FIN tx len name word value dc dnum dnam nc nnum nnam wa).2.2.2.2.2.2.2.2.2.2.2.1) * 2, .inr (.inl gN')))]) hx hb hr rfl hlocks hAe hP hD hS [0, 1, 2, 3, 4, 5, 6, 7, 8, 9] rfl (by decide) ⟨rfl, ⟨_, rfl, tb', fB', d1', d2', fD', gD', n1', n2', fN', gN', rfl, okT', okD', okN'⟩⟩ (Nat.le_of_eq (Nat.zero_add _)) (Nat.le_of_eq (Nat.zero_add _)) dc_X_read_7
