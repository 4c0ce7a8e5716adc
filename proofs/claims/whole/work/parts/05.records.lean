/-! RECORDS: rows of numbers and names. num i j, nam i j: what stands in row i, column j -/
def zr_ok (w nw rows cap : Nat) (num : Nat → Nat → Int32) (nam : Nat → Nat → Int64) (fN : Nat → Int32) (fL : Nat → Int64) : Prop :=
  1 ≤ w ∧ w ≤ 16 ∧ 1 ≤ nw ∧ nw ≤ 16 ∧ 4 ≤ cap ∧ rows ≤ cap ∧ cap ≤ 16384 ∧ ∀ i, i < rows → (∀ j, j < w → fN (i * w + j) = num i j) ∧ (∀ j, j < nw → fL (i * nw + j) = nam i j)
abbrev zr_W (Y : zz_Y) (h w nw rows cap a1 a2 : Nat) (fN : Nat → Int32) (fL : Nat → Int64) : va_W := [(h, .inr (1, [.int (nI w), .int (nI nw), .ref a1, .ref a2, .int (nI rows)])), (a1, .inl (Y.2.1.2.1, cap * w, .inl fN)), (a2, .inl (Y.2.1.2.2, cap * nw, .inr (.inl fL)))]
def zr_OK (Y : zz_Y) (h w nw rows cap : Nat) (num : Nat → Nat → Int32) (nam : Nat → Nat → Int64) (W : va_W) : Prop := ∃ (a1 a2 : Nat) (fN : Nat → Int32) (fL : Nat → Int64), W = zr_W Y h w nw rows cap a1 a2 fN fL ∧ zr_ok w nw rows cap num nam fN fL
def zr_num (w rows : Nat) (num : Nat → Nat → Int32) (row col : Int32) : Int32 := if row < 0 then -1 else if nI rows ≤ row then -1 else if col < 0 then -1 else if nI w ≤ col then -1 else num row.toNatClampNeg col.toNatClampNeg
def zr_nam (nw rows : Nat) (nam : Nat → Nat → Int64) (row col : Int32) : Int64 := if row < 0 then 0 else if nI rows ≤ row then 0 else if col < 0 then 0 else if nI nw ≤ col then 0 else nam row.toNatClampNeg col.toNatClampNeg
def zr_up {α : Type} (f : Nat → Nat → α) (i j : Nat) (v : α) : Nat → Nat → α := fun a b => if a = i ∧ b = j then v else f a b
def zr_set {α : Type} (w rows : Nat) (num : Nat → Nat → α) (row col : Int32) (v : α) : Nat → Nat → α := if row < 0 then num else if nI rows ≤ row then num else if col < 0 then num else if nI w ≤ col then num else zr_up num row.toNatClampNeg col.toNatClampNeg v
theorem zr_at {w rows cap : Nat} {row col : Int32} (c1 : ¬ row < 0) (c2 : ¬ nI rows ≤ row) (c3 : ¬ col < 0) (c4 : ¬ nI w ≤ col) (hw : w ≤ 16) (hr : rows ≤ cap) (hc : cap ≤ 16384) :
    ∃ i j : Nat, i < rows ∧ j < w ∧ row = nI i ∧ col = nI j ∧ row * nI w + col = nI (i * w + j) ∧ i * w + j < cap * w ∧ cap * w < 2 ^ 31 ∧ row.toNatClampNeg = i ∧ col.toNatClampNeg = j := by
  obtain ⟨i, hi, rfl⟩ : ∃ i : Nat, i < rows ∧ row = nI i := by
    rcases pk_ix row (n := rows) (by omega) with h | h | ⟨i, hi, e⟩
    · exact absurd h c1
    · exact absurd h c2
    · exact ⟨i, hi, e⟩
  obtain ⟨j, hj, rfl⟩ : ∃ j : Nat, j < w ∧ col = nI j := by
    rcases pk_ix col (n := w) (by omega) with h | h | ⟨i, hi, e⟩
    · exact absurd h c3
    · exact absurd h c4
    · exact ⟨i, hi, e⟩
  have h0 : (i + 1) * w ≤ cap * w := Nat.mul_le_mul_right w (by omega)
  rw [Nat.succ_mul] at h0
  have h2 : cap * w ≤ 16384 * 16 := Nat.mul_le_mul hc hw
  exact ⟨i, j, hi, hj, rfl, rfl, by rw [pk_mul, nI_add], by omega, by omega, nI_clamp (by omega), nI_clamp (by omega)⟩
theorem zr_inj {w a b i j : Nat} (hb : b < w) (hj : j < w) (h : a * w + b = i * w + j) : a = i ∧ b = j := by
  have h1 : (a * w + b) / w = a := by
    rw [Nat.mul_comm, Nat.mul_add_div (by omega), Nat.div_eq_of_lt hb, Nat.add_zero]
  have h2 : (i * w + j) / w = i := by
    rw [Nat.mul_comm, Nat.mul_add_div (by omega), Nat.div_eq_of_lt hj, Nat.add_zero]
  have h3 : a = i := by rw [← h1, ← h2, h]
  subst h3
  exact ⟨rfl, by omega⟩
theorem zr_ok_set {w nw rows cap i j : Nat} {num : Nat → Nat → Int32} {nam : Nat → Nat → Int64} {fN : Nat → Int32} {fL : Nat → Int64} (ok : zr_ok w nw rows cap num nam fN fL) (hj : j < w) (v : Int32) : zr_ok w nw rows cap (zr_up num i j v) nam (upd fN (i * w + j) v) fL := by
  obtain ⟨h1, h2, h3, h4, h5, h6, h7, h8⟩ := ok
  refine ⟨h1, h2, h3, h4, h5, h6, h7, fun a ha => ⟨fun b hb => ?_, (h8 a ha).2⟩⟩
  by_cases e : a * w + b = i * w + j
  · obtain ⟨rfl, rfl⟩ := zr_inj hb hj e
    rw [pk_us, zr_up, if_pos ⟨rfl, rfl⟩]
  · rw [pk_un e, zr_up, if_neg (fun q => e (by rw [q.1, q.2]))]
    exact (h8 a ha).1 b hb
theorem zr_ok_setL {w nw rows cap i j : Nat} {num : Nat → Nat → Int32} {nam : Nat → Nat → Int64} {fN : Nat → Int32} {fL : Nat → Int64} (ok : zr_ok w nw rows cap num nam fN fL) (hj : j < nw) (v : Int64) : zr_ok w nw rows cap num (zr_up nam i j v) fN (vp_updL fL (i * nw + j) v) := by
  obtain ⟨h1, h2, h3, h4, h5, h6, h7, h8⟩ := ok
  refine ⟨h1, h2, h3, h4, h5, h6, h7, fun a ha => ⟨(h8 a ha).1, fun b hb => ?_⟩⟩
  by_cases e : a * nw + b = i * nw + j
  · obtain ⟨rfl, rfl⟩ := zr_inj hb hj e
    rw [pk_uLs, zr_up, if_pos ⟨rfl, rfl⟩]
  · rw [pk_uLn e, zr_up, if_neg (fun q => e (by rw [q.1, q.2]))]
    exact (h8 a ha).2 b hb

set_option maxHeartbeats 4000000 in
set_option maxRecDepth 100000 in
theorem ct_R_size (l : Launch) (Y : zz_Y) {h w nw rows cap : Nat} {num : Nat → Nat → Int32} {nam : Nat → Nat → Int64} {wc : va_W} (hok : zr_OK Y h w nw rows cap num nam wc) : zz_I0 l Y yn_R_size bc_R_size 1 (some .int) { frames := 0, cells := 0, slots := 0, locals := 0 } [.ref h] wc (fun r => r = nI rows) := by
  intro sz
  obtain ⟨a1, a2, fN, fL, rfl, ok⟩ := hok
  refine zz_of (cc := bc_R_size) (maxL := 1) (ret := (some .int)) (by decide) (Nat.le_of_ble_eq_true rfl) ?_
  intro p e s m below meth c A ls hsz C0 hl
  subst hsz
  obtain ⟨hx, hb, hr, hml, hlocks, hin, hown, hw, hAe, hA, hK, hG, hP, hD, hS⟩ := C0
  have hown : s.vm.findClass "TwoLevelParser$Records" = some m.cls := hown
  have hl : lv_has ls 1 [(0, .ref h)] := hl
  refine lv_aload_n hx hb dc_R_size_0 rfl (lv_at hl 0 rfl) ?_
  refine va_get (D := Y.1) (ci := 1) (v := .int (nI rows)) (C := rn_R) (T := tf_R) (N := 5) hx hb hw wi_R hown hK hP 0 rfl rfl 4 (by decide) (hw _ kw_136) (fun _ h9 => h9) rfl dc_R_size_1 ?_
  exact zz_iret0 hx hb hr rfl hlocks (rfl) dc_R_size_4

set_option maxHeartbeats 4000000 in
set_option maxRecDepth 100000 in
theorem ct_R_numberAt (l : Launch) (Y : zz_Y) {h w nw rows cap : Nat} {num : Nat → Nat → Int32} {nam : Nat → Nat → Int64} {wc : va_W} (hok : zr_OK Y h w nw rows cap num nam wc) (row : Int32) (col : Int32) : zz_I0 l Y yn_R_numberAt bc_R_numberAt 4 (some .int) { frames := 0, cells := 0, slots := 0, locals := 0 } [.ref h, .int row, .int col] wc (fun r => r = zr_num w rows num row col) := by
  intro sz
  obtain ⟨a1, a2, fN, fL, rfl, ok⟩ := hok
  refine zz_of (cc := bc_R_numberAt) (maxL := 4) (ret := (some .int)) (by decide) (Nat.le_of_ble_eq_true rfl) ?_
  intro p e s m below meth c A ls hsz C0 hl
  subst hsz
  obtain ⟨hx, hb, hr, hml, hlocks, hin, hown, hw, hAe, hA, hK, hG, hP, hD, hS⟩ := C0
  have hown : s.vm.findClass "TwoLevelParser$Records" = some m.cls := hown
  have hl : lv_has ls 4 [(0, .ref h), (1, .int row), (2, .int col)] := hl
  refine lv_iload_n hx hb dc_R_numberAt_0 rfl (lv_at hl 1 rfl) ?_
  refine lv_if_lt (tgt := 28) hx hb dc_R_numberAt_1 (by decide) (fun c_1 => ?_) (fun c_1 => ?_)
  · skip
    refine lv_iconst (v := 0) hx hb dc_R_numberAt_28 (by decide) ?_
    refine lv_istore_n (lv' := [(3, .int 0), (0, .ref h), (1, .int row), (2, .int col)]) hx hb dc_R_numberAt_29 rfl hl (by decide) rfl (fun ls hl => ?_)
    refine lv_iload_n hx hb dc_R_numberAt_30 rfl (lv_at hl 0 rfl) ?_
    refine lv_if_eq (tgt := 50) hx hb dc_R_numberAt_31 (by decide) (fun _ => ?_) (fun c9 => absurd c9 (by decide))
    refine lv_iconst (v := (-1)) hx hb dc_R_numberAt_50 (by decide) ?_
    exact zz_iret0 hx hb hr rfl hlocks (by rw [zr_num, if_pos c_1]) dc_R_numberAt_51
  · skip
    refine lv_iload_n hx hb dc_R_numberAt_4 rfl (lv_at hl 1 rfl) ?_
    refine lv_aload_n hx hb dc_R_numberAt_5 rfl (lv_at hl 0 rfl) ?_
    refine va_get (D := Y.1) (ci := 1) (v := .int (nI rows)) (C := rn_R) (T := tf_R) (N := 5) hx hb hw wi_R hown hK hP 0 rfl rfl 4 (by decide) (hw _ kw_136) (fun _ h9 => h9) rfl dc_R_numberAt_6 ?_
    refine lv_icmp_ge (tgt := 28) hx hb dc_R_numberAt_9 (by decide) (fun c_2 => ?_) (fun c_2 => ?_)
    · skip
      refine lv_iconst (v := 0) hx hb dc_R_numberAt_28 (by decide) ?_
      refine lv_istore_n (lv' := [(3, .int 0), (0, .ref h), (1, .int row), (2, .int col)]) hx hb dc_R_numberAt_29 rfl hl (by decide) rfl (fun ls hl => ?_)
      refine lv_iload_n hx hb dc_R_numberAt_30 rfl (lv_at hl 0 rfl) ?_
      refine lv_if_eq (tgt := 50) hx hb dc_R_numberAt_31 (by decide) (fun _ => ?_) (fun c9 => absurd c9 (by decide))
      refine lv_iconst (v := (-1)) hx hb dc_R_numberAt_50 (by decide) ?_
      exact zz_iret0 hx hb hr rfl hlocks (by rw [zr_num, if_neg c_1, if_pos c_2]) dc_R_numberAt_51
    · skip
      refine lv_iload_n hx hb dc_R_numberAt_12 rfl (lv_at hl 2 rfl) ?_
      refine lv_if_lt (tgt := 28) hx hb dc_R_numberAt_13 (by decide) (fun c_3 => ?_) (fun c_3 => ?_)
      · skip
        refine lv_iconst (v := 0) hx hb dc_R_numberAt_28 (by decide) ?_
        refine lv_istore_n (lv' := [(3, .int 0), (0, .ref h), (1, .int row), (2, .int col)]) hx hb dc_R_numberAt_29 rfl hl (by decide) rfl (fun ls hl => ?_)
        refine lv_iload_n hx hb dc_R_numberAt_30 rfl (lv_at hl 0 rfl) ?_
        refine lv_if_eq (tgt := 50) hx hb dc_R_numberAt_31 (by decide) (fun _ => ?_) (fun c9 => absurd c9 (by decide))
        refine lv_iconst (v := (-1)) hx hb dc_R_numberAt_50 (by decide) ?_
        exact zz_iret0 hx hb hr rfl hlocks (by rw [zr_num, if_neg c_1, if_neg c_2, if_pos c_3]) dc_R_numberAt_51
      · skip
        refine lv_iload_n hx hb dc_R_numberAt_16 rfl (lv_at hl 2 rfl) ?_
        refine lv_aload_n hx hb dc_R_numberAt_17 rfl (lv_at hl 0 rfl) ?_
        refine va_get (D := Y.1) (ci := 1) (v := .int (nI w)) (C := rn_R) (T := tf_R) (N := 5) hx hb hw wi_R hown hK hP 0 rfl rfl 0 (by decide) (hw _ kw_132) (fun _ h9 => h9) rfl dc_R_numberAt_18 ?_
        refine lv_icmp_ge (tgt := 28) hx hb dc_R_numberAt_21 (by decide) (fun c_4 => ?_) (fun c_4 => ?_)
        · skip
          refine lv_iconst (v := 0) hx hb dc_R_numberAt_28 (by decide) ?_
          refine lv_istore_n (lv' := [(3, .int 0), (0, .ref h), (1, .int row), (2, .int col)]) hx hb dc_R_numberAt_29 rfl hl (by decide) rfl (fun ls hl => ?_)
          refine lv_iload_n hx hb dc_R_numberAt_30 rfl (lv_at hl 0 rfl) ?_
          refine lv_if_eq (tgt := 50) hx hb dc_R_numberAt_31 (by decide) (fun _ => ?_) (fun c9 => absurd c9 (by decide))
          refine lv_iconst (v := (-1)) hx hb dc_R_numberAt_50 (by decide) ?_
          exact zz_iret0 hx hb hr rfl hlocks (by rw [zr_num, if_neg c_1, if_neg c_2, if_neg c_3, if_pos c_4]) dc_R_numberAt_51
        · skip
          refine lv_iconst (v := 1) hx hb dc_R_numberAt_24 (by decide) ?_
          refine lv_goto (tgt := 29) hx hb dc_R_numberAt_25 (by decide) ?_
          refine lv_istore_n (lv' := [(3, .int 1), (0, .ref h), (1, .int row), (2, .int col)]) hx hb dc_R_numberAt_29 rfl hl (by decide) rfl (fun ls hl => ?_)
          refine lv_iload_n hx hb dc_R_numberAt_30 rfl (lv_at hl 0 rfl) ?_
          refine lv_if_eq (tgt := 50) hx hb dc_R_numberAt_31 (by decide) (fun c9 => absurd c9 (by decide)) (fun _ => ?_)
          refine lv_aload_n hx hb dc_R_numberAt_34 rfl (lv_at hl 1 rfl) ?_
          refine va_get (D := Y.1) (ci := 1) (v := .ref a1) (C := rn_R) (T := tf_R) (N := 5) hx hb hw wi_R hown hK hP 0 rfl rfl 2 (by decide) (hw _ kw_134) (fun _ h9 => h9) rfl dc_R_numberAt_35 ?_
          refine lv_iload_n hx hb dc_R_numberAt_38 rfl (lv_at hl 2 rfl) ?_
          refine lv_aload_n hx hb dc_R_numberAt_39 rfl (lv_at hl 1 rfl) ?_
          refine va_get (D := Y.1) (ci := 1) (v := .int (nI w)) (C := rn_R) (T := tf_R) (N := 5) hx hb hw wi_R hown hK hP 0 rfl rfl 0 (by decide) (hw _ kw_132) (fun _ h9 => h9) rfl dc_R_numberAt_40 ?_
          obtain ⟨i, j, hi, hj, _, _, ex, h1, h2, ei, ej⟩ := zr_at c_1 c_2 c_3 c_4 ok.2.1 ok.2.2.2.2.2.1 ok.2.2.2.2.2.2.1
          refine lv_imul hx hb dc_R_numberAt_43 ?_
          refine lv_iload_n hx hb dc_R_numberAt_44 rfl (lv_at hl 3 rfl) ?_
          refine lv_iadd hx hb dc_R_numberAt_45 ?_
          rw [show (row * (nI w)) + col = nI (i * w + j) from ex]
          refine va_iald (D := Y.1) hx hb hK hP 1 1 rfl rfl (vp_in_nI h1 h2) dc_R_numberAt_46 ?_
          refine lv_goto (tgt := 51) hx hb dc_R_numberAt_47 (by decide) ?_
          exact zz_iret0 hx hb hr rfl hlocks (by rw [zr_num, if_neg c_1, if_neg c_2, if_neg c_3, if_neg c_4, ei, ej, nI_clamp (by omega)]; exact (ok.2.2.2.2.2.2.2 i hi).1 j hj) dc_R_numberAt_51

set_option maxHeartbeats 4000000 in
set_option maxRecDepth 100000 in
theorem ct_R_nameAt (l : Launch) (Y : zz_Y) {h w nw rows cap : Nat} {num : Nat → Nat → Int32} {nam : Nat → Nat → Int64} {wc : va_W} (hok : zr_OK Y h w nw rows cap num nam wc) (row : Int32) (col : Int32) : zz_L0 l Y yn_R_nameAt bc_R_nameAt 4 (some .long) { frames := 0, cells := 0, slots := 0, locals := 0 } [.ref h, .int row, .int col] wc (fun r => r = zr_nam nw rows nam row col) := by
  intro sz
  obtain ⟨a1, a2, fN, fL, rfl, ok⟩ := hok
  refine zz_of (cc := bc_R_nameAt) (maxL := 4) (ret := (some .long)) (by decide) (Nat.le_of_ble_eq_true rfl) ?_
  intro p e s m below meth c A ls hsz C0 hl
  subst hsz
  obtain ⟨hx, hb, hr, hml, hlocks, hin, hown, hw, hAe, hA, hK, hG, hP, hD, hS⟩ := C0
  have hown : s.vm.findClass "TwoLevelParser$Records" = some m.cls := hown
  have hl : lv_has ls 4 [(0, .ref h), (1, .int row), (2, .int col)] := hl
  refine lv_iload_n hx hb dc_R_nameAt_0 rfl (lv_at hl 1 rfl) ?_
  refine lv_if_lt (tgt := 28) hx hb dc_R_nameAt_1 (by decide) (fun c_1 => ?_) (fun c_1 => ?_)
  · skip
    refine lv_iconst (v := 0) hx hb dc_R_nameAt_28 (by decide) ?_
    refine lv_istore_n (lv' := [(3, .int 0), (0, .ref h), (1, .int row), (2, .int col)]) hx hb dc_R_nameAt_29 rfl hl (by decide) rfl (fun ls hl => ?_)
    refine lv_iload_n hx hb dc_R_nameAt_30 rfl (lv_at hl 0 rfl) ?_
    refine lv_if_eq (tgt := 50) hx hb dc_R_nameAt_31 (by decide) (fun _ => ?_) (fun c9 => absurd c9 (by decide))
    refine lv_lconst (v := 0) hx hb dc_R_nameAt_50 (by decide) ?_
    exact zz_lret0 hx hb hr hlocks (by rw [zr_nam, if_pos c_1]) dc_R_nameAt_51
  · skip
    refine lv_iload_n hx hb dc_R_nameAt_4 rfl (lv_at hl 1 rfl) ?_
    refine lv_aload_n hx hb dc_R_nameAt_5 rfl (lv_at hl 0 rfl) ?_
    refine va_get (D := Y.1) (ci := 1) (v := .int (nI rows)) (C := rn_R) (T := tf_R) (N := 5) hx hb hw wi_R hown hK hP 0 rfl rfl 4 (by decide) (hw _ kw_136) (fun _ h9 => h9) rfl dc_R_nameAt_6 ?_
    refine lv_icmp_ge (tgt := 28) hx hb dc_R_nameAt_9 (by decide) (fun c_2 => ?_) (fun c_2 => ?_)
    · skip
      refine lv_iconst (v := 0) hx hb dc_R_nameAt_28 (by decide) ?_
      refine lv_istore_n (lv' := [(3, .int 0), (0, .ref h), (1, .int row), (2, .int col)]) hx hb dc_R_nameAt_29 rfl hl (by decide) rfl (fun ls hl => ?_)
      refine lv_iload_n hx hb dc_R_nameAt_30 rfl (lv_at hl 0 rfl) ?_
      refine lv_if_eq (tgt := 50) hx hb dc_R_nameAt_31 (by decide) (fun _ => ?_) (fun c9 => absurd c9 (by decide))
      refine lv_lconst (v := 0) hx hb dc_R_nameAt_50 (by decide) ?_
      exact zz_lret0 hx hb hr hlocks (by rw [zr_nam, if_neg c_1, if_pos c_2]) dc_R_nameAt_51
    · skip
      refine lv_iload_n hx hb dc_R_nameAt_12 rfl (lv_at hl 2 rfl) ?_
      refine lv_if_lt (tgt := 28) hx hb dc_R_nameAt_13 (by decide) (fun c_3 => ?_) (fun c_3 => ?_)
      · skip
        refine lv_iconst (v := 0) hx hb dc_R_nameAt_28 (by decide) ?_
        refine lv_istore_n (lv' := [(3, .int 0), (0, .ref h), (1, .int row), (2, .int col)]) hx hb dc_R_nameAt_29 rfl hl (by decide) rfl (fun ls hl => ?_)
        refine lv_iload_n hx hb dc_R_nameAt_30 rfl (lv_at hl 0 rfl) ?_
        refine lv_if_eq (tgt := 50) hx hb dc_R_nameAt_31 (by decide) (fun _ => ?_) (fun c9 => absurd c9 (by decide))
        refine lv_lconst (v := 0) hx hb dc_R_nameAt_50 (by decide) ?_
        exact zz_lret0 hx hb hr hlocks (by rw [zr_nam, if_neg c_1, if_neg c_2, if_pos c_3]) dc_R_nameAt_51
      · skip
        refine lv_iload_n hx hb dc_R_nameAt_16 rfl (lv_at hl 2 rfl) ?_
        refine lv_aload_n hx hb dc_R_nameAt_17 rfl (lv_at hl 0 rfl) ?_
        refine va_get (D := Y.1) (ci := 1) (v := .int (nI nw)) (C := rn_R) (T := tf_R) (N := 5) hx hb hw wi_R hown hK hP 0 rfl rfl 1 (by decide) (hw _ kw_133) (fun _ h9 => h9) rfl dc_R_nameAt_18 ?_
        refine lv_icmp_ge (tgt := 28) hx hb dc_R_nameAt_21 (by decide) (fun c_4 => ?_) (fun c_4 => ?_)
        · skip
          refine lv_iconst (v := 0) hx hb dc_R_nameAt_28 (by decide) ?_
          refine lv_istore_n (lv' := [(3, .int 0), (0, .ref h), (1, .int row), (2, .int col)]) hx hb dc_R_nameAt_29 rfl hl (by decide) rfl (fun ls hl => ?_)
          refine lv_iload_n hx hb dc_R_nameAt_30 rfl (lv_at hl 0 rfl) ?_
          refine lv_if_eq (tgt := 50) hx hb dc_R_nameAt_31 (by decide) (fun _ => ?_) (fun c9 => absurd c9 (by decide))
          refine lv_lconst (v := 0) hx hb dc_R_nameAt_50 (by decide) ?_
          exact zz_lret0 hx hb hr hlocks (by rw [zr_nam, if_neg c_1, if_neg c_2, if_neg c_3, if_pos c_4]) dc_R_nameAt_51
        · skip
          refine lv_iconst (v := 1) hx hb dc_R_nameAt_24 (by decide) ?_
          refine lv_goto (tgt := 29) hx hb dc_R_nameAt_25 (by decide) ?_
          refine lv_istore_n (lv' := [(3, .int 1), (0, .ref h), (1, .int row), (2, .int col)]) hx hb dc_R_nameAt_29 rfl hl (by decide) rfl (fun ls hl => ?_)
          refine lv_iload_n hx hb dc_R_nameAt_30 rfl (lv_at hl 0 rfl) ?_
          refine lv_if_eq (tgt := 50) hx hb dc_R_nameAt_31 (by decide) (fun c9 => absurd c9 (by decide)) (fun _ => ?_)
          refine lv_aload_n hx hb dc_R_nameAt_34 rfl (lv_at hl 1 rfl) ?_
          refine va_get (D := Y.1) (ci := 1) (v := .ref a2) (C := rn_R) (T := tf_R) (N := 5) hx hb hw wi_R hown hK hP 0 rfl rfl 3 (by decide) (hw _ kw_135) (fun _ h9 => h9) rfl dc_R_nameAt_35 ?_
          refine lv_iload_n hx hb dc_R_nameAt_38 rfl (lv_at hl 2 rfl) ?_
          refine lv_aload_n hx hb dc_R_nameAt_39 rfl (lv_at hl 1 rfl) ?_
          refine va_get (D := Y.1) (ci := 1) (v := .int (nI nw)) (C := rn_R) (T := tf_R) (N := 5) hx hb hw wi_R hown hK hP 0 rfl rfl 1 (by decide) (hw _ kw_133) (fun _ h9 => h9) rfl dc_R_nameAt_40 ?_
          obtain ⟨i, j, hi, hj, _, _, ex, h1, h2, ei, ej⟩ := zr_at c_1 c_2 c_3 c_4 ok.2.2.2.1 ok.2.2.2.2.2.1 ok.2.2.2.2.2.2.1
          refine lv_imul hx hb dc_R_nameAt_43 ?_
          refine lv_iload_n hx hb dc_R_nameAt_44 rfl (lv_at hl 3 rfl) ?_
          refine lv_iadd hx hb dc_R_nameAt_45 ?_
          rw [show (row * (nI nw)) + col = nI (i * nw + j) from ex]
          refine va_lald (D := Y.1) hx hb hK hP 2 2 rfl rfl (vp_in_nI h1 h2) dc_R_nameAt_46 ?_
          refine lv_goto (tgt := 51) hx hb dc_R_nameAt_47 (by decide) ?_
          exact zz_lret0 hx hb hr hlocks (by rw [zr_nam, if_neg c_1, if_neg c_2, if_neg c_3, if_neg c_4, ei, ej, nI_clamp (by omega)]; exact (ok.2.2.2.2.2.2.2 i hi).2 j hj) dc_R_nameAt_51

set_option maxHeartbeats 4000000 in
set_option maxRecDepth 100000 in
theorem ct_R_clear (l : Launch) (Y : zz_Y) {h w nw rows cap : Nat} {num : Nat → Nat → Int32} {nam : Nat → Nat → Int64} {wc : va_W} (hok : zr_OK Y h w nw rows cap num nam wc) : zz_V l Y yn_R_clear bc_R_clear 1 none { frames := 0, cells := 0, slots := 0, locals := 0 } [.ref h] wc (fun w1 => zr_OK Y h w nw 0 cap num nam w1) := by
  intro sz
  obtain ⟨a1, a2, fN, fL, rfl, ok⟩ := hok
  refine zz_of (cc := bc_R_clear) (maxL := 1) (ret := none) (by decide) (Nat.le_of_ble_eq_true rfl) ?_
  intro p e s m below meth c A ls hsz C0 hl
  subst hsz
  obtain ⟨hx, hb, hr, hml, hlocks, hin, hown, hw, hAe, hA, hK, hG, hP, hD, hS⟩ := C0
  have hown : s.vm.findClass "TwoLevelParser$Records" = some m.cls := hown
  have hl : lv_has ls 1 [(0, .ref h)] := hl
  refine lv_aload_n hx hb dc_R_clear_0 rfl (lv_at hl 0 rfl) ?_
  refine lv_iconst (v := 0) hx hb dc_R_clear_1 (by decide) ?_
  refine va_put (D := Y.1) (ci := 1) (v := .int 0) (ty := .int) (C := rn_R) (T := tf_R) (N := 5) hx hb hw wi_R ty_R ty_R_ok nm_R hown hK hP hD hS 0 rfl rfl 4 (by decide) (hw _ kw_136) (fun _ h9 => h9) rfl (by decide +kernel) rfl rfl (Nat.le_of_ble_eq_true rfl) dc_R_clear_2 (fun H locs hP hD hS => ?_)
  have hP : va_P Y.1 vwCl [(h, .inr (1, [.int (nI w), .int (nI nw), .ref a1, .ref a2, .int 0])), (a1, .inl (Y.2.1.2.1, cap * w, .inl fN)), (a2, .inl (Y.2.1.2.2, cap * nw, .inr (.inl fL)))] H := hP
  have hD : va_D A [(h, .inr (1, [.int (nI w), .int (nI nw), .ref a1, .ref a2, .int 0])), (a1, .inl (Y.2.1.2.1, cap * w, .inl fN)), (a2, .inl (Y.2.1.2.2, cap * nw, .inr (.inl fL)))] := hD
  exact zz_vret (w1 := [(h, .inr (1, [.int (nI w), .int (nI nw), .ref a1, .ref a2, .int 0])), (a1, .inl (Y.2.1.2.1, cap * w, .inl fN)), (a2, .inl (Y.2.1.2.2, cap * nw, .inr (.inl fL)))]) hx hb hr hlocks hAe hP hD hS [0, 1, 2] rfl (by decide) ⟨a1, a2, fN, fL, rfl, ok.1, ok.2.1, ok.2.2.1, ok.2.2.2.1, ok.2.2.2.2.1, Nat.zero_le _, ok.2.2.2.2.2.2.1, fun i h => absurd h (by omega)⟩ (Nat.le_refl _) (Nat.le_refl _) dc_R_clear_5

set_option maxHeartbeats 4000000 in
set_option maxRecDepth 100000 in
theorem ct_R_setNumber (l : Launch) (Y : zz_Y) {h w nw rows cap : Nat} {num : Nat → Nat → Int32} {nam : Nat → Nat → Int64} {wc : va_W} (hok : zr_OK Y h w nw rows cap num nam wc) (row col : Int32) (v : Int32) : zz_V l Y yn_R_setNumber bc_R_setNumber 4 none { frames := 0, cells := 0, slots := 0, locals := 0 } [.ref h, .int row, .int col, .int v] wc (fun w1 => zr_OK Y h w nw rows cap (zr_set w rows num row col v) nam w1) := by
  intro sz
  obtain ⟨a1, a2, fN, fL, rfl, ok⟩ := hok
  refine zz_of (cc := bc_R_setNumber) (maxL := 4) (ret := none) (by decide) (Nat.le_of_ble_eq_true rfl) ?_
  intro p e s m below meth c A ls hsz C0 hl
  subst hsz
  obtain ⟨hx, hb, hr, hml, hlocks, hin, hown, hw, hAe, hA, hK, hG, hP, hD, hS⟩ := C0
  have hown : s.vm.findClass "TwoLevelParser$Records" = some m.cls := hown
  have hl : lv_has ls 4 [(0, .ref h), (1, .int row), (2, .int col), (3, .int v)] := hl
  refine lv_iload_n hx hb dc_R_setNumber_0 rfl (lv_at hl 1 rfl) ?_
  refine lv_if_lt (tgt := 38) hx hb dc_R_setNumber_1 (by decide) (fun c_1 => ?_) (fun c_1 => ?_)
  · skip
    exact zz_vret (w1 := [(h, .inr (1, [.int (nI w), .int (nI nw), .ref a1, .ref a2, .int (nI rows)])), (a1, .inl (Y.2.1.2.1, cap * w, .inl fN)), (a2, .inl (Y.2.1.2.2, cap * nw, .inr (.inl fL)))]) hx hb hr hlocks hAe hP hD hS [0, 1, 2] rfl (by decide) (by rw [zr_set, if_pos c_1]; exact ⟨a1, a2, fN, fL, rfl, ok⟩) (Nat.le_refl _) (Nat.le_refl _) dc_R_setNumber_38
  · skip
    refine lv_iload_n hx hb dc_R_setNumber_4 rfl (lv_at hl 1 rfl) ?_
    refine lv_aload_n hx hb dc_R_setNumber_5 rfl (lv_at hl 0 rfl) ?_
    refine va_get (D := Y.1) (ci := 1) (v := .int (nI rows)) (C := rn_R) (T := tf_R) (N := 5) hx hb hw wi_R hown hK hP 0 rfl rfl 4 (by decide) (hw _ kw_136) (fun _ h9 => h9) rfl dc_R_setNumber_6 ?_
    refine lv_icmp_ge (tgt := 38) hx hb dc_R_setNumber_9 (by decide) (fun c_2 => ?_) (fun c_2 => ?_)
    · skip
      exact zz_vret (w1 := [(h, .inr (1, [.int (nI w), .int (nI nw), .ref a1, .ref a2, .int (nI rows)])), (a1, .inl (Y.2.1.2.1, cap * w, .inl fN)), (a2, .inl (Y.2.1.2.2, cap * nw, .inr (.inl fL)))]) hx hb hr hlocks hAe hP hD hS [0, 1, 2] rfl (by decide) (by rw [zr_set, if_neg c_1, if_pos c_2]; exact ⟨a1, a2, fN, fL, rfl, ok⟩) (Nat.le_refl _) (Nat.le_refl _) dc_R_setNumber_38
    · skip
      refine lv_iload_n hx hb dc_R_setNumber_12 rfl (lv_at hl 2 rfl) ?_
      refine lv_if_lt (tgt := 38) hx hb dc_R_setNumber_13 (by decide) (fun c_3 => ?_) (fun c_3 => ?_)
      · skip
        exact zz_vret (w1 := [(h, .inr (1, [.int (nI w), .int (nI nw), .ref a1, .ref a2, .int (nI rows)])), (a1, .inl (Y.2.1.2.1, cap * w, .inl fN)), (a2, .inl (Y.2.1.2.2, cap * nw, .inr (.inl fL)))]) hx hb hr hlocks hAe hP hD hS [0, 1, 2] rfl (by decide) (by rw [zr_set, if_neg c_1, if_neg c_2, if_pos c_3]; exact ⟨a1, a2, fN, fL, rfl, ok⟩) (Nat.le_refl _) (Nat.le_refl _) dc_R_setNumber_38
      · skip
        refine lv_iload_n hx hb dc_R_setNumber_16 rfl (lv_at hl 2 rfl) ?_
        refine lv_aload_n hx hb dc_R_setNumber_17 rfl (lv_at hl 0 rfl) ?_
        refine va_get (D := Y.1) (ci := 1) (v := .int (nI w)) (C := rn_R) (T := tf_R) (N := 5) hx hb hw wi_R hown hK hP 0 rfl rfl 0 (by decide) (hw _ kw_132) (fun _ h9 => h9) rfl dc_R_setNumber_18 ?_
        refine lv_icmp_ge (tgt := 38) hx hb dc_R_setNumber_21 (by decide) (fun c_4 => ?_) (fun c_4 => ?_)
        · skip
          exact zz_vret (w1 := [(h, .inr (1, [.int (nI w), .int (nI nw), .ref a1, .ref a2, .int (nI rows)])), (a1, .inl (Y.2.1.2.1, cap * w, .inl fN)), (a2, .inl (Y.2.1.2.2, cap * nw, .inr (.inl fL)))]) hx hb hr hlocks hAe hP hD hS [0, 1, 2] rfl (by decide) (by rw [zr_set, if_neg c_1, if_neg c_2, if_neg c_3, if_pos c_4]; exact ⟨a1, a2, fN, fL, rfl, ok⟩) (Nat.le_refl _) (Nat.le_refl _) dc_R_setNumber_38
        · skip
          refine lv_aload_n hx hb dc_R_setNumber_24 rfl (lv_at hl 0 rfl) ?_
          refine va_get (D := Y.1) (ci := 1) (v := .ref a1) (C := rn_R) (T := tf_R) (N := 5) hx hb hw wi_R hown hK hP 0 rfl rfl 2 (by decide) (hw _ kw_134) (fun _ h9 => h9) rfl dc_R_setNumber_25 ?_
          refine lv_iload_n hx hb dc_R_setNumber_28 rfl (lv_at hl 1 rfl) ?_
          refine lv_aload_n hx hb dc_R_setNumber_29 rfl (lv_at hl 0 rfl) ?_
          refine va_get (D := Y.1) (ci := 1) (v := .int (nI w)) (C := rn_R) (T := tf_R) (N := 5) hx hb hw wi_R hown hK hP 0 rfl rfl 0 (by decide) (hw _ kw_132) (fun _ h9 => h9) rfl dc_R_setNumber_30 ?_
          obtain ⟨i, j, hi, hj, _, _, ex, h1, h2, ei, ej⟩ := zr_at c_1 c_2 c_3 c_4 ok.2.1 ok.2.2.2.2.2.1 ok.2.2.2.2.2.2.1
          refine lv_imul hx hb dc_R_setNumber_33 ?_
          refine lv_iload_n hx hb dc_R_setNumber_34 rfl (lv_at hl 2 rfl) ?_
          refine lv_iadd hx hb dc_R_setNumber_35 ?_
          rw [show (row * (nI w)) + col = nI (i * w + j) from ex]
          refine lv_iload_n hx hb dc_R_setNumber_36 rfl (lv_at hl 3 rfl) ?_
          refine va_iast (D := Y.1) hx hb hK hP hD hS 1 1 rfl rfl (vp_in_nI h1 h2) dc_R_setNumber_37 (fun H locs hP hD hS => ?_)
          have hP : va_P Y.1 vwCl [(h, .inr (1, [.int (nI w), .int (nI nw), .ref a1, .ref a2, .int (nI rows)])), (a1, .inl (Y.2.1.2.1, cap * w, .inl (upd fN (nI (i * w + j)).toNatClampNeg v))), (a2, .inl (Y.2.1.2.2, cap * nw, .inr (.inl fL)))] H := hP
          have hD : va_D A [(h, .inr (1, [.int (nI w), .int (nI nw), .ref a1, .ref a2, .int (nI rows)])), (a1, .inl (Y.2.1.2.1, cap * w, .inl (upd fN (nI (i * w + j)).toNatClampNeg v))), (a2, .inl (Y.2.1.2.2, cap * nw, .inr (.inl fL)))] := hD
          exact zz_vret (w1 := [(h, .inr (1, [.int (nI w), .int (nI nw), .ref a1, .ref a2, .int (nI rows)])), (a1, .inl (Y.2.1.2.1, cap * w, .inl (upd fN (nI (i * w + j)).toNatClampNeg v))), (a2, .inl (Y.2.1.2.2, cap * nw, .inr (.inl fL)))]) hx hb hr hlocks hAe hP hD hS [0, 1, 2] rfl (by decide) (by rw [zr_set, if_neg c_1, if_neg c_2, if_neg c_3, if_neg c_4, ei, ej]; exact ⟨a1, a2, _, _, rfl, by rw [nI_clamp (by omega)]; exact zr_ok_set ok hj v⟩) (Nat.le_refl _) (Nat.le_refl _) dc_R_setNumber_38

set_option maxHeartbeats 4000000 in
set_option maxRecDepth 100000 in
theorem ct_R_setName (l : Launch) (Y : zz_Y) {h w nw rows cap : Nat} {num : Nat → Nat → Int32} {nam : Nat → Nat → Int64} {wc : va_W} (hok : zr_OK Y h w nw rows cap num nam wc) (row col : Int32) (v : Int64) : zz_V l Y yn_R_setName bc_R_setName 5 none { frames := 0, cells := 0, slots := 0, locals := 0 } [.ref h, .int row, .int col, .long v] wc (fun w1 => zr_OK Y h w nw rows cap num (zr_set nw rows nam row col v) w1) := by
  intro sz
  obtain ⟨a1, a2, fN, fL, rfl, ok⟩ := hok
  refine zz_of (cc := bc_R_setName) (maxL := 5) (ret := none) (by decide) (Nat.le_of_ble_eq_true rfl) ?_
  intro p e s m below meth c A ls hsz C0 hl
  subst hsz
  obtain ⟨hx, hb, hr, hml, hlocks, hin, hown, hw, hAe, hA, hK, hG, hP, hD, hS⟩ := C0
  have hown : s.vm.findClass "TwoLevelParser$Records" = some m.cls := hown
  have hl : lv_has ls 5 [(0, .ref h), (1, .int row), (2, .int col), (3, .long v)] := hl
  refine lv_iload_n hx hb dc_R_setName_0 rfl (lv_at hl 1 rfl) ?_
  refine lv_if_lt (tgt := 38) hx hb dc_R_setName_1 (by decide) (fun c_1 => ?_) (fun c_1 => ?_)
  · skip
    exact zz_vret (w1 := [(h, .inr (1, [.int (nI w), .int (nI nw), .ref a1, .ref a2, .int (nI rows)])), (a1, .inl (Y.2.1.2.1, cap * w, .inl fN)), (a2, .inl (Y.2.1.2.2, cap * nw, .inr (.inl fL)))]) hx hb hr hlocks hAe hP hD hS [0, 1, 2] rfl (by decide) (by rw [zr_set, if_pos c_1]; exact ⟨a1, a2, fN, fL, rfl, ok⟩) (Nat.le_refl _) (Nat.le_refl _) dc_R_setName_38
  · skip
    refine lv_iload_n hx hb dc_R_setName_4 rfl (lv_at hl 1 rfl) ?_
    refine lv_aload_n hx hb dc_R_setName_5 rfl (lv_at hl 0 rfl) ?_
    refine va_get (D := Y.1) (ci := 1) (v := .int (nI rows)) (C := rn_R) (T := tf_R) (N := 5) hx hb hw wi_R hown hK hP 0 rfl rfl 4 (by decide) (hw _ kw_136) (fun _ h9 => h9) rfl dc_R_setName_6 ?_
    refine lv_icmp_ge (tgt := 38) hx hb dc_R_setName_9 (by decide) (fun c_2 => ?_) (fun c_2 => ?_)
    · skip
      exact zz_vret (w1 := [(h, .inr (1, [.int (nI w), .int (nI nw), .ref a1, .ref a2, .int (nI rows)])), (a1, .inl (Y.2.1.2.1, cap * w, .inl fN)), (a2, .inl (Y.2.1.2.2, cap * nw, .inr (.inl fL)))]) hx hb hr hlocks hAe hP hD hS [0, 1, 2] rfl (by decide) (by rw [zr_set, if_neg c_1, if_pos c_2]; exact ⟨a1, a2, fN, fL, rfl, ok⟩) (Nat.le_refl _) (Nat.le_refl _) dc_R_setName_38
    · skip
      refine lv_iload_n hx hb dc_R_setName_12 rfl (lv_at hl 2 rfl) ?_
      refine lv_if_lt (tgt := 38) hx hb dc_R_setName_13 (by decide) (fun c_3 => ?_) (fun c_3 => ?_)
      · skip
        exact zz_vret (w1 := [(h, .inr (1, [.int (nI w), .int (nI nw), .ref a1, .ref a2, .int (nI rows)])), (a1, .inl (Y.2.1.2.1, cap * w, .inl fN)), (a2, .inl (Y.2.1.2.2, cap * nw, .inr (.inl fL)))]) hx hb hr hlocks hAe hP hD hS [0, 1, 2] rfl (by decide) (by rw [zr_set, if_neg c_1, if_neg c_2, if_pos c_3]; exact ⟨a1, a2, fN, fL, rfl, ok⟩) (Nat.le_refl _) (Nat.le_refl _) dc_R_setName_38
      · skip
        refine lv_iload_n hx hb dc_R_setName_16 rfl (lv_at hl 2 rfl) ?_
        refine lv_aload_n hx hb dc_R_setName_17 rfl (lv_at hl 0 rfl) ?_
        refine va_get (D := Y.1) (ci := 1) (v := .int (nI nw)) (C := rn_R) (T := tf_R) (N := 5) hx hb hw wi_R hown hK hP 0 rfl rfl 1 (by decide) (hw _ kw_133) (fun _ h9 => h9) rfl dc_R_setName_18 ?_
        refine lv_icmp_ge (tgt := 38) hx hb dc_R_setName_21 (by decide) (fun c_4 => ?_) (fun c_4 => ?_)
        · skip
          exact zz_vret (w1 := [(h, .inr (1, [.int (nI w), .int (nI nw), .ref a1, .ref a2, .int (nI rows)])), (a1, .inl (Y.2.1.2.1, cap * w, .inl fN)), (a2, .inl (Y.2.1.2.2, cap * nw, .inr (.inl fL)))]) hx hb hr hlocks hAe hP hD hS [0, 1, 2] rfl (by decide) (by rw [zr_set, if_neg c_1, if_neg c_2, if_neg c_3, if_pos c_4]; exact ⟨a1, a2, fN, fL, rfl, ok⟩) (Nat.le_refl _) (Nat.le_refl _) dc_R_setName_38
        · skip
          refine lv_aload_n hx hb dc_R_setName_24 rfl (lv_at hl 0 rfl) ?_
          refine va_get (D := Y.1) (ci := 1) (v := .ref a2) (C := rn_R) (T := tf_R) (N := 5) hx hb hw wi_R hown hK hP 0 rfl rfl 3 (by decide) (hw _ kw_135) (fun _ h9 => h9) rfl dc_R_setName_25 ?_
          refine lv_iload_n hx hb dc_R_setName_28 rfl (lv_at hl 1 rfl) ?_
          refine lv_aload_n hx hb dc_R_setName_29 rfl (lv_at hl 0 rfl) ?_
          refine va_get (D := Y.1) (ci := 1) (v := .int (nI nw)) (C := rn_R) (T := tf_R) (N := 5) hx hb hw wi_R hown hK hP 0 rfl rfl 1 (by decide) (hw _ kw_133) (fun _ h9 => h9) rfl dc_R_setName_30 ?_
          obtain ⟨i, j, hi, hj, _, _, ex, h1, h2, ei, ej⟩ := zr_at c_1 c_2 c_3 c_4 ok.2.2.2.1 ok.2.2.2.2.2.1 ok.2.2.2.2.2.2.1
          refine lv_imul hx hb dc_R_setName_33 ?_
          refine lv_iload_n hx hb dc_R_setName_34 rfl (lv_at hl 2 rfl) ?_
          refine lv_iadd hx hb dc_R_setName_35 ?_
          rw [show (row * (nI nw)) + col = nI (i * nw + j) from ex]
          refine lv_lload_n hx hb dc_R_setName_36 rfl (lv_at hl 3 rfl) ?_
          refine va_last (D := Y.1) hx hb hK hP hD hS 2 2 rfl rfl (vp_in_nI h1 h2) dc_R_setName_37 (fun H locs hP hD hS => ?_)
          have hP : va_P Y.1 vwCl [(h, .inr (1, [.int (nI w), .int (nI nw), .ref a1, .ref a2, .int (nI rows)])), (a1, .inl (Y.2.1.2.1, cap * w, .inl fN)), (a2, .inl (Y.2.1.2.2, cap * nw, .inr (.inl (vp_updL fL (nI (i * nw + j)).toNatClampNeg v))))] H := hP
          have hD : va_D A [(h, .inr (1, [.int (nI w), .int (nI nw), .ref a1, .ref a2, .int (nI rows)])), (a1, .inl (Y.2.1.2.1, cap * w, .inl fN)), (a2, .inl (Y.2.1.2.2, cap * nw, .inr (.inl (vp_updL fL (nI (i * nw + j)).toNatClampNeg v))))] := hD
          exact zz_vret (w1 := [(h, .inr (1, [.int (nI w), .int (nI nw), .ref a1, .ref a2, .int (nI rows)])), (a1, .inl (Y.2.1.2.1, cap * w, .inl fN)), (a2, .inl (Y.2.1.2.2, cap * nw, .inr (.inl (vp_updL fL (nI (i * nw + j)).toNatClampNeg v))))]) hx hb hr hlocks hAe hP hD hS [0, 1, 2] rfl (by decide) (by rw [zr_set, if_neg c_1, if_neg c_2, if_neg c_3, if_neg c_4, ei, ej]; exact ⟨a1, a2, _, _, rfl, by rw [nI_clamp (by omega)]; exact zr_ok_setL ok hj v⟩) (Nat.le_refl _) (Nat.le_refl _) dc_R_setName_38
