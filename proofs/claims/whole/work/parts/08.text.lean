/-! TEXT: bytes and tokens -/
def zz_b : Bool → Int32
  | true => 1
  | false => 0
theorem zz_bF {b : Bool} (h : zz_b b = 0) : ¬ b = true := by cases b <;> first | exact Bool.false_ne_true | exact absurd h (by decide)
theorem zz_bT {b : Bool} (h : ¬ zz_b b = 0) : b = true := by cases b <;> first | rfl | exact absurd rfl h
theorem zz_nb (b : Bool) : narrow .boolean (.int (zz_b b)) = .int (zz_b b) := by cases b <;> rfl
def zt_ok (tx : Nat → Nat) (cap len : Nat) (fB : Nat → Int32) : Prop := 64 ≤ cap ∧ len ≤ cap ∧ len ≤ 8192 ∧ cap ≤ 16384 ∧ sb_Lat tx len fB ∧ sb_Fit fB
def zt_OK (Y : zz_Y) (h : Nat) (tx : Nat → Nat) (cap len next : Nat) (token : Int32) (place : Nat) (name : Int64) (word value : Int32) (W : va_W) : Prop := ∃ (hb : Nat) (fB : Nat → Int32), W = [(h, .inr (2, [.ref hb, .int (nI len), .int (nI next), .int token, .int (nI place), .long name, .int word, .int value])), (hb, .inl (Y.2.1.1, cap, .inl fB))] ∧ zt_ok tx cap len fB
def zt_at (tx : Nat → Nat) (len k : Nat) : Int32 := if k < len then nI (tx k) else -1
def zt_blank (b : Int32) : Bool := if b = 32 then true else if b = 10 then true else false
def zt_letter (b : Int32) : Bool := if b < 97 then false else if 122 < b then false else true
def zt_digit (b : Int32) : Bool := if b < 48 then false else if 57 < b then false else true
def zt_joined (b : Int32) : Bool := if zt_letter b = true then true else if zt_digit b = true then true else if b = 45 then true else false
def zt_wf (n : Int64) : Nat → List Int64 → Int32
  | _, [] => -1
  | i, x :: l => if x = n then nI i else zt_wf n (i + 1) l
def zt_word (n : Int64) : Int32 := zt_wf n 0 zz_wd

set_option maxHeartbeats 4000000 in
set_option maxRecDepth 100000 in
theorem ct_T_isBlank (l : Launch) (Y : zz_Y) (b : Int32) : zz_I0 l Y yn_T_isBlank bc_T_isBlank 1 (some .boolean) { frames := 0, cells := 0, slots := 0, locals := 0 } [.int b] [] (fun r => r = zz_b (zt_blank b)) := by
  intro sz
  refine zz_of (cc := bc_T_isBlank) (maxL := 1) (ret := (some .boolean)) (by decide) (Nat.le_of_ble_eq_true rfl) ?_
  intro p e s m below meth c A ls hsz C0 hl
  subst hsz
  obtain ⟨hx, hb, hr, hml, hlocks, hin, hown, hw, hAe, hA, hK, hG, hP, hD, hS⟩ := C0
  have hown : s.vm.findClass "TwoLevelParser$Text" = some m.cls := hown
  have hl : lv_has ls 1 [(0, .int b)] := hl
  refine lv_iload_n hx hb dc_T_isBlank_0 rfl (lv_at hl 0 rfl) ?_
  refine lv_bipush (v := 32) hx hb dc_T_isBlank_1 (by decide) ?_
  refine lv_icmp_eq (tgt := 12) hx hb dc_T_isBlank_3 (by decide) (fun c_1 => ?_) (fun c_1 => ?_)
  · skip
    refine lv_iconst (v := 1) hx hb dc_T_isBlank_12 (by decide) ?_
    refine lv_goto (tgt := 17) hx hb dc_T_isBlank_13 (by decide) ?_
    exact zz_iret0 hx hb hr rfl hlocks (by rw [zt_blank, if_pos c_1]; rfl) dc_T_isBlank_17
  · skip
    refine lv_iload_n hx hb dc_T_isBlank_6 rfl (lv_at hl 0 rfl) ?_
    refine lv_bipush (v := 10) hx hb dc_T_isBlank_7 (by decide) ?_
    refine lv_icmp_ne (tgt := 16) hx hb dc_T_isBlank_9 (by decide) (fun c_2 => ?_) (fun c_2 => ?_)
    · skip
      refine lv_iconst (v := 0) hx hb dc_T_isBlank_16 (by decide) ?_
      exact zz_iret0 hx hb hr rfl hlocks (by rw [zt_blank, if_neg c_1, if_neg c_2]; rfl) dc_T_isBlank_17
    · skip
      refine lv_iconst (v := 1) hx hb dc_T_isBlank_12 (by decide) ?_
      refine lv_goto (tgt := 17) hx hb dc_T_isBlank_13 (by decide) ?_
      exact zz_iret0 hx hb hr rfl hlocks (by rw [zt_blank, if_neg c_1, if_pos c_2]; rfl) dc_T_isBlank_17

set_option maxHeartbeats 4000000 in
set_option maxRecDepth 100000 in
theorem ct_T_isLetter (l : Launch) (Y : zz_Y) (b : Int32) : zz_I0 l Y yn_T_isLetter bc_T_isLetter 1 (some .boolean) { frames := 0, cells := 0, slots := 0, locals := 0 } [.int b] [] (fun r => r = zz_b (zt_letter b)) := by
  intro sz
  refine zz_of (cc := bc_T_isLetter) (maxL := 1) (ret := (some .boolean)) (by decide) (Nat.le_of_ble_eq_true rfl) ?_
  intro p e s m below meth c A ls hsz C0 hl
  subst hsz
  obtain ⟨hx, hb, hr, hml, hlocks, hin, hown, hw, hAe, hA, hK, hG, hP, hD, hS⟩ := C0
  have hown : s.vm.findClass "TwoLevelParser$Text" = some m.cls := hown
  have hl : lv_has ls 1 [(0, .int b)] := hl
  refine lv_iload_n hx hb dc_T_isLetter_0 rfl (lv_at hl 0 rfl) ?_
  refine lv_bipush (v := 97) hx hb dc_T_isLetter_1 (by decide) ?_
  refine lv_icmp_lt (tgt := 16) hx hb dc_T_isLetter_3 (by decide) (fun c_1 => ?_) (fun c_1 => ?_)
  · skip
    refine lv_iconst (v := 0) hx hb dc_T_isLetter_16 (by decide) ?_
    exact zz_iret0 hx hb hr rfl hlocks (by rw [zt_letter, if_pos c_1]; rfl) dc_T_isLetter_17
  · skip
    refine lv_iload_n hx hb dc_T_isLetter_6 rfl (lv_at hl 0 rfl) ?_
    refine lv_bipush (v := 122) hx hb dc_T_isLetter_7 (by decide) ?_
    refine lv_icmp_gt (tgt := 16) hx hb dc_T_isLetter_9 (by decide) (fun c_2 => ?_) (fun c_2 => ?_)
    · skip
      refine lv_iconst (v := 0) hx hb dc_T_isLetter_16 (by decide) ?_
      exact zz_iret0 hx hb hr rfl hlocks (by rw [zt_letter, if_neg c_1, if_pos c_2]; rfl) dc_T_isLetter_17
    · skip
      refine lv_iconst (v := 1) hx hb dc_T_isLetter_12 (by decide) ?_
      refine lv_goto (tgt := 17) hx hb dc_T_isLetter_13 (by decide) ?_
      exact zz_iret0 hx hb hr rfl hlocks (by rw [zt_letter, if_neg c_1, if_neg c_2]; rfl) dc_T_isLetter_17

set_option maxHeartbeats 4000000 in
set_option maxRecDepth 100000 in
theorem ct_T_isDigit (l : Launch) (Y : zz_Y) (b : Int32) : zz_I0 l Y yn_T_isDigit bc_T_isDigit 1 (some .boolean) { frames := 0, cells := 0, slots := 0, locals := 0 } [.int b] [] (fun r => r = zz_b (zt_digit b)) := by
  intro sz
  refine zz_of (cc := bc_T_isDigit) (maxL := 1) (ret := (some .boolean)) (by decide) (Nat.le_of_ble_eq_true rfl) ?_
  intro p e s m below meth c A ls hsz C0 hl
  subst hsz
  obtain ⟨hx, hb, hr, hml, hlocks, hin, hown, hw, hAe, hA, hK, hG, hP, hD, hS⟩ := C0
  have hown : s.vm.findClass "TwoLevelParser$Text" = some m.cls := hown
  have hl : lv_has ls 1 [(0, .int b)] := hl
  refine lv_iload_n hx hb dc_T_isDigit_0 rfl (lv_at hl 0 rfl) ?_
  refine lv_bipush (v := 48) hx hb dc_T_isDigit_1 (by decide) ?_
  refine lv_icmp_lt (tgt := 16) hx hb dc_T_isDigit_3 (by decide) (fun c_1 => ?_) (fun c_1 => ?_)
  · skip
    refine lv_iconst (v := 0) hx hb dc_T_isDigit_16 (by decide) ?_
    exact zz_iret0 hx hb hr rfl hlocks (by rw [zt_digit, if_pos c_1]; rfl) dc_T_isDigit_17
  · skip
    refine lv_iload_n hx hb dc_T_isDigit_6 rfl (lv_at hl 0 rfl) ?_
    refine lv_bipush (v := 57) hx hb dc_T_isDigit_7 (by decide) ?_
    refine lv_icmp_gt (tgt := 16) hx hb dc_T_isDigit_9 (by decide) (fun c_2 => ?_) (fun c_2 => ?_)
    · skip
      refine lv_iconst (v := 0) hx hb dc_T_isDigit_16 (by decide) ?_
      exact zz_iret0 hx hb hr rfl hlocks (by rw [zt_digit, if_neg c_1, if_pos c_2]; rfl) dc_T_isDigit_17
    · skip
      refine lv_iconst (v := 1) hx hb dc_T_isDigit_12 (by decide) ?_
      refine lv_goto (tgt := 17) hx hb dc_T_isDigit_13 (by decide) ?_
      exact zz_iret0 hx hb hr rfl hlocks (by rw [zt_digit, if_neg c_1, if_neg c_2]; rfl) dc_T_isDigit_17

set_option maxHeartbeats 4000000 in
set_option maxRecDepth 100000 in
theorem ct_T_isJoined (l : Launch) (Y : zz_Y) (b : Int32) : zz_I0 l Y yn_T_isJoined bc_T_isJoined 1 (some .boolean) { frames := 1, cells := 0, slots := 0, locals := 20 } [.int b] [] (fun r => r = zz_b (zt_joined b)) := by
  intro sz
  refine zz_of (cc := bc_T_isJoined) (maxL := 1) (ret := (some .boolean)) (by decide) (Nat.le_of_ble_eq_true rfl) ?_
  intro p e s m below meth c A ls hsz C0 hl
  subst hsz
  obtain ⟨hx, hb, hr, hml, hlocks, hin, hown, hw, hAe, hA, hK, hG, hP, hD, hS⟩ := C0
  have hown : s.vm.findClass "TwoLevelParser$Text" = some m.cls := hown
  have hl : lv_has ls 1 [(0, .int b)] := hl
  refine lv_iload_n hx hb dc_T_isJoined_0 rfl (lv_at hl 0 rfl) ?_
  refine vp_callSi (W.runS (As := [.int b]) (rest := []) ⟨hx, hb, hml, hown, hw⟩ (ct_T_isLetter l Y b _) (va_cwS 1 hw (zz_gS kw_253 kw_254 kw_62 kw_255) rfl rfl rfl (by decide +kernel) ⟨Nat.le_of_ble_eq_true rfl, Nat.le_of_ble_eq_true rfl⟩) (zz_preS hK hG hA hP hD hS [] rfl (by decide)) rfl rfl hl.1 rfl (lv_room (Nat.le_of_ble_eq_true rfl)) dc_T_isJoined_1 ⟨Nat.le_of_ble_eq_true rfl, Nat.le_of_ble_eq_true rfl⟩) (fun r hr9 => ?_)
  subst hr9
  refine lv_if_ne (tgt := 20) hx hb dc_T_isJoined_4 (by decide) (fun c_1 => ?_) (fun c_1 => ?_)
  · skip
    have c_1 := zz_bT c_1
    refine lv_iconst (v := 1) hx hb dc_T_isJoined_20 (by decide) ?_
    refine lv_goto (tgt := 25) hx hb dc_T_isJoined_21 (by decide) ?_
    exact zz_iret0 hx hb hr rfl hlocks (by rw [zt_joined, if_pos c_1]; rfl) dc_T_isJoined_25
  · skip
    have c_1 := zz_bF c_1
    refine lv_iload_n hx hb dc_T_isJoined_7 rfl (lv_at hl 0 rfl) ?_
    refine vp_callSi (W.runS (As := [.int b]) (rest := []) ⟨hx, hb, hml, hown, hw⟩ (ct_T_isDigit l Y b _) (va_cwS 1 hw (zz_gS kw_256 kw_257 kw_62 kw_258) rfl rfl rfl (by decide +kernel) ⟨Nat.le_of_ble_eq_true rfl, Nat.le_of_ble_eq_true rfl⟩) (zz_preS hK hG hA hP hD hS [] rfl (by decide)) rfl rfl hl.1 rfl (lv_room (Nat.le_of_ble_eq_true rfl)) dc_T_isJoined_8 ⟨Nat.le_of_ble_eq_true rfl, Nat.le_of_ble_eq_true rfl⟩) (fun r hr9 => ?_)
    subst hr9
    refine lv_if_ne (tgt := 20) hx hb dc_T_isJoined_11 (by decide) (fun c_2 => ?_) (fun c_2 => ?_)
    · skip
      have c_2 := zz_bT c_2
      refine lv_iconst (v := 1) hx hb dc_T_isJoined_20 (by decide) ?_
      refine lv_goto (tgt := 25) hx hb dc_T_isJoined_21 (by decide) ?_
      exact zz_iret0 hx hb hr rfl hlocks (by rw [zt_joined, if_neg c_1, if_pos c_2]; rfl) dc_T_isJoined_25
    · skip
      have c_2 := zz_bF c_2
      refine lv_iload_n hx hb dc_T_isJoined_14 rfl (lv_at hl 0 rfl) ?_
      refine lv_bipush (v := 45) hx hb dc_T_isJoined_15 (by decide) ?_
      refine lv_icmp_ne (tgt := 24) hx hb dc_T_isJoined_17 (by decide) (fun c_3 => ?_) (fun c_3 => ?_)
      · skip
        refine lv_iconst (v := 0) hx hb dc_T_isJoined_24 (by decide) ?_
        exact zz_iret0 hx hb hr rfl hlocks (by rw [zt_joined, if_neg c_1, if_neg c_2, if_neg c_3]; rfl) dc_T_isJoined_25
      · skip
        refine lv_iconst (v := 1) hx hb dc_T_isJoined_20 (by decide) ?_
        refine lv_goto (tgt := 25) hx hb dc_T_isJoined_21 (by decide) ?_
        exact zz_iret0 hx hb hr rfl hlocks (by rw [zt_joined, if_neg c_1, if_neg c_2, if_pos c_3]; rfl) dc_T_isJoined_25

set_option maxHeartbeats 4000000 in
set_option maxRecDepth 100000 in
theorem ct_T_byteAt (l : Launch) (Y : zz_Y) {h cap len next place : Nat} {token word value : Int32} {name : Int64} {tx : Nat → Nat} {wc : va_W} (hok : zt_OK Y h tx cap len next token place name word value wc) (k : Nat) (hk : k < 2 ^ 31) : zz_I0 l Y yn_T_byteAt bc_T_byteAt 2 (some .int) { frames := 0, cells := 0, slots := 0, locals := 0 } [.ref h, .int (nI k)] wc (fun r => r = zt_at tx len k) := by
  intro sz
  obtain ⟨hb0, fB, rfl, ok⟩ := hok
  refine zz_of (cc := bc_T_byteAt) (maxL := 2) (ret := (some .int)) (by decide) (Nat.le_of_ble_eq_true rfl) ?_
  intro p e s m below meth c A ls hsz C0 hl
  subst hsz
  obtain ⟨hx, hb, hr, hml, hlocks, hin, hown, hw, hAe, hA, hK, hG, hP, hD, hS⟩ := C0
  have hown : s.vm.findClass "TwoLevelParser$Text" = some m.cls := hown
  have hl : lv_has ls 2 [(0, .ref h), (1, .int (nI k))] := hl
  obtain ⟨q1, q2, q3, q4, q5, q6⟩ := id ok
  refine lv_iload_n hx hb dc_T_byteAt_0 rfl (lv_at hl 1 rfl) ?_
  refine lv_if_lt (tgt := 25) hx hb dc_T_byteAt_1 (by decide) (fun c9 => absurd c9 (nI_pos hk)) (fun _ => ?_)
  refine lv_iload_n hx hb dc_T_byteAt_4 rfl (lv_at hl 1 rfl) ?_
  refine lv_aload_n hx hb dc_T_byteAt_5 rfl (lv_at hl 0 rfl) ?_
  refine va_get (D := Y.1) (ci := 2) (v := .int (nI len)) (C := rn_T) (T := tf_T) (N := 8) hx hb hw wi_T hown hK hP 0 rfl rfl 1 (by decide) (hw _ kw_93) (fun _ h9 => h9) rfl dc_T_byteAt_6 ?_
  refine lv_icmp_ge (tgt := 25) hx hb dc_T_byteAt_9 (by decide) (fun c_1 => ?_) (fun c_1 => ?_)
  · skip
    refine lv_iconst (v := (-1)) hx hb dc_T_byteAt_25 (by decide) ?_
    exact zz_iret0 hx hb hr rfl hlocks (by rw [zt_at, if_neg (fun q => nI_ge q (by omega) c_1)]) dc_T_byteAt_26
  · skip
    have hk2 : k < len := by rcases Nat.lt_or_ge k len with q | q; exact q; exact absurd (nI_le q hk) c_1
    refine lv_aload_n hx hb dc_T_byteAt_12 rfl (lv_at hl 0 rfl) ?_
    refine va_get (D := Y.1) (ci := 2) (v := .ref hb0) (C := rn_T) (T := tf_T) (N := 8) hx hb hw wi_T hown hK hP 0 rfl rfl 0 (by decide) (hw _ kw_92) (fun _ h9 => h9) rfl dc_T_byteAt_13 ?_
    refine lv_iload_n hx hb dc_T_byteAt_16 rfl (lv_at hl 1 rfl) ?_
    refine va_bald (D := Y.1) hx hb hK hP 1 0 rfl rfl (vp_in_nI (by omega) (by omega)) dc_T_byteAt_17 ?_
    refine lv_sipush (v := 255) hx hb dc_T_byteAt_18 (by decide) ?_
    refine lv_iand hx hb dc_T_byteAt_21 ?_
    refine lv_goto (tgt := 26) hx hb dc_T_byteAt_22 (by decide) ?_
    exact zz_iret0 hx hb hr rfl hlocks (by rw [zt_at, if_pos hk2, nI_clamp hk, (q5 k hk2).2]; exact (sb_byte _ (q5 k hk2).1).1) dc_T_byteAt_26

set_option maxHeartbeats 4000000 in
set_option maxRecDepth 100000 in
theorem ct_T_size (l : Launch) (Y : zz_Y) {h cap len next place : Nat} {token word value : Int32} {name : Int64} {tx : Nat → Nat} {wc : va_W} (hok : zt_OK Y h tx cap len next token place name word value wc) : zz_I0 l Y yn_T_size bc_T_size 1 (some .int) { frames := 0, cells := 0, slots := 0, locals := 0 } [.ref h] wc (fun r => r = nI len) := by
  intro sz
  obtain ⟨hb0, fB, rfl, ok⟩ := hok
  refine zz_of (cc := bc_T_size) (maxL := 1) (ret := (some .int)) (by decide) (Nat.le_of_ble_eq_true rfl) ?_
  intro p e s m below meth c A ls hsz C0 hl
  subst hsz
  obtain ⟨hx, hb, hr, hml, hlocks, hin, hown, hw, hAe, hA, hK, hG, hP, hD, hS⟩ := C0
  have hown : s.vm.findClass "TwoLevelParser$Text" = some m.cls := hown
  have hl : lv_has ls 1 [(0, .ref h)] := hl
  refine lv_aload_n hx hb dc_T_size_0 rfl (lv_at hl 0 rfl) ?_
  refine va_get (D := Y.1) (ci := 2) (v := .int (nI len)) (C := rn_T) (T := tf_T) (N := 8) hx hb hw wi_T hown hK hP 0 rfl rfl 1 (by decide) (hw _ kw_93) (fun _ h9 => h9) rfl dc_T_size_1 ?_
  exact zz_iret0 hx hb hr rfl hlocks rfl dc_T_size_4

set_option maxHeartbeats 4000000 in
set_option maxRecDepth 100000 in
theorem ct_T_clear (l : Launch) (Y : zz_Y) {h cap len next place : Nat} {token word value : Int32} {name : Int64} {tx : Nat → Nat} {wc : va_W} (hok : zt_OK Y h tx cap len next token place name word value wc) (tx2 : Nat → Nat) : zz_V l Y yn_T_clear bc_T_clear 1 none { frames := 0, cells := 0, slots := 0, locals := 0 } [.ref h] wc (fun w1 => zt_OK Y h tx2 cap 0 next token place name word value w1) := by
  intro sz
  obtain ⟨hb0, fB, rfl, ok⟩ := hok
  refine zz_of (cc := bc_T_clear) (maxL := 1) (ret := none) (by decide) (Nat.le_of_ble_eq_true rfl) ?_
  intro p e s m below meth c A ls hsz C0 hl
  subst hsz
  obtain ⟨hx, hb, hr, hml, hlocks, hin, hown, hw, hAe, hA, hK, hG, hP, hD, hS⟩ := C0
  have hown : s.vm.findClass "TwoLevelParser$Text" = some m.cls := hown
  have hl : lv_has ls 1 [(0, .ref h)] := hl
  refine lv_aload_n hx hb dc_T_clear_0 rfl (lv_at hl 0 rfl) ?_
  refine lv_iconst (v := 0) hx hb dc_T_clear_1 (by decide) ?_
  refine va_put (D := Y.1) (ci := 2) (v := .int 0) (ty := .int) (C := rn_T) (T := tf_T) (N := 8) hx hb hw wi_T ty_T ty_T_ok nm_T hown hK hP hD hS 0 rfl rfl 1 (by decide) (hw _ kw_93) (fun _ h9 => h9) rfl (by decide +kernel) rfl rfl (Nat.le_of_ble_eq_true rfl) dc_T_clear_2 (fun H locs hP hD hS => ?_)
  have hP : va_P Y.1 vwCl [(h, .inr (2, [.ref hb0, .int 0, .int (nI next), .int token, .int (nI place), .long name, .int word, .int value])), (hb0, .inl (Y.2.1.1, cap, .inl fB))] H := hP
  have hD : va_D A [(h, .inr (2, [.ref hb0, .int 0, .int (nI next), .int token, .int (nI place), .long name, .int word, .int value])), (hb0, .inl (Y.2.1.1, cap, .inl fB))] := hD
  exact zz_vret (w1 := [(h, .inr (2, [.ref hb0, .int 0, .int (nI next), .int token, .int (nI place), .long name, .int word, .int value])), (hb0, .inl (Y.2.1.1, cap, .inl fB))]) hx hb hr hlocks hAe hP hD hS [0, 1] rfl (by decide) ⟨hb0, fB, rfl, ok.1, Nat.zero_le _, Nat.zero_le _, ok.2.2.2.1, fun j hj => absurd hj (Nat.not_lt_zero _), ok.2.2.2.2.2⟩ (Nat.le_refl _) (Nat.le_refl _) dc_T_clear_5

theorem zt_drop (k : Nat) (h : k < 23) : zz_wd.drop k = zz_wd.getD k 0 :: zz_wd.drop (k + 1) := by
  rw [List.drop_eq_getElem_cons (show k < zz_wd.length from h)]
  congr 1
  rw [List.getD_eq_getElem?_getD, List.getElem?_eq_getElem (show k < zz_wd.length from h)]
  rfl

set_option maxHeartbeats 4000000 in
set_option maxRecDepth 100000 in
theorem zt_wl {p : Program} {l : Launch} {e : Env} {s : State} {m : MethodId} {args : Array Value} {below : List Frame} {meth : Method} {c : Code} {A : Nat → Prop} {wc0 : va_W} {Y : zz_Y} (nm : Int64) (C0 : zz_At p s m args meth c Y yn_T_wordOf bc_T_wordOf 3 (some .int) wc0 A) :
    ∀ (n k : Nat), k + n = 23 → zt_word nm = zt_wf nm k (zz_wd.drop k) → ∀ (ls : Array Slot), lv_has ls 3 [(2, .int (nI k)), (0, .long nm)] → W p l e (headSpec (zz_ws yn_T_wordOf bc_T_wordOf 3 (some .int)) { frames := 0, cells := 0, slots := 0, locals := 0 }).room s m args below meth c s.heap [] 0 0 (MQ below (vp_Si (fun r => r = zt_word nm)) args s 0 0 (fun _ => False)) (F0 m 2 ls []) := by
  obtain ⟨hx, hb, hr, hml, hlocks, hin, hown, hw, hAe, hA, hK, hG, -, -, hS⟩ := C0
  have hown : s.vm.findClass "TwoLevelParser$Text" = some m.cls := hown
  obtain ⟨tw, hZ, hT⟩ := hG.2.2.2.1
  intro n
  induction n with
  | zero =>
    intro k hk hwd ls hl
    refine lv_iload_n hx hb dc_T_wordOf_2 rfl (lv_at hl 0 rfl) ?_
    refine va_getsN hx hb hZ hS hown (va_Nw.use rfl hG.1) (fun _ h9 => h9) dc_T_wordOf_3 ?_
    refine va_tlen (v := 23) hx hb hT hS rfl dc_T_wordOf_6 ?_
    refine lv_icmp_ge (tgt := 28) hx hb dc_T_wordOf_7 (by decide) (fun _ => ?_) (fun c9 => absurd (nI_le (a := 23) (by omega) (by omega)) c9)
    refine lv_iconst (v := (-1)) hx hb dc_T_wordOf_28 (by decide) ?_
    exact zz_iret0 hx hb hr rfl hlocks (by rw [hwd, show k = 23 by omega]; rfl) dc_T_wordOf_29
  | succ n ih =>
    intro k hk hwd ls hl
    refine lv_iload_n hx hb dc_T_wordOf_2 rfl (lv_at hl 0 rfl) ?_
    refine va_getsN hx hb hZ hS hown (va_Nw.use rfl hG.1) (fun _ h9 => h9) dc_T_wordOf_3 ?_
    refine va_tlen (v := 23) hx hb hT hS rfl dc_T_wordOf_6 ?_
    refine lv_icmp_ge (tgt := 28) hx hb dc_T_wordOf_7 (by decide) (fun c9 => absurd c9 (nI_ge (b := 23) (by omega) (by omega))) (fun _ => ?_)
    refine va_getsN hx hb hZ hS hown (va_Nw.use rfl hG.1) (fun _ h9 => h9) dc_T_wordOf_10 ?_
    refine lv_iload_n hx hb dc_T_wordOf_13 rfl (lv_at hl 0 rfl) ?_
    refine va_tl (v := .long (zz_wd.getD k 0)) hx hb hT hS (vp_in_nI (by omega) (by omega)) (by rw [nI_clamp (by omega)]) dc_T_wordOf_14 ?_
    refine lv_lload_n hx hb dc_T_wordOf_15 rfl (lv_at hl 1 rfl) ?_
    refine W.lcmp hx hb dc_T_wordOf_16 ?_
    refine lv_if_ne (tgt := 22) hx hb dc_T_wordOf_17 (by decide) (fun c_1 => ?_) (fun c_1 => ?_)
    · skip
      refine lv_iinc (v := (nI (k + 1))) (lv' := [(2, .int (nI (k + 1))), (0, .long nm)]) hx hb dc_T_wordOf_22 hl (k := 0) rfl (nI_1 k) (by decide) rfl (fun ls hl => ?_)
      refine lv_goto (tgt := 2) hx hb dc_T_wordOf_25 (by decide) ?_
      exact ih (k + 1) (by omega) (by rw [hwd, zt_drop k (by omega), zt_wf, if_neg (fun q => c_1 ((lg_cmp_eq _ _).mpr q))]) _ (lv_sub hl [0, 1] rfl)
    · skip
      refine lv_iload_n hx hb dc_T_wordOf_20 rfl (lv_at hl 0 rfl) ?_
      exact zz_iret0 hx hb hr rfl hlocks (by rw [hwd, zt_drop k (by omega), zt_wf, if_pos ((lg_cmp_eq _ _).mp c_1)]) dc_T_wordOf_21

set_option maxHeartbeats 4000000 in
set_option maxRecDepth 100000 in
theorem ct_T_wordOf (l : Launch) (Y : zz_Y) (nm : Int64) : zz_I0 l Y yn_T_wordOf bc_T_wordOf 3 (some .int) { frames := 0, cells := 0, slots := 0, locals := 0 } [.long nm] [] (fun r => r = zt_word nm) := by
  intro sz
  refine zz_of (cc := bc_T_wordOf) (maxL := 3) (ret := (some .int)) (by decide) (Nat.le_of_ble_eq_true rfl) ?_
  intro p e s m below meth c A ls hsz C0 hl
  subst hsz
  obtain ⟨hx, hb, hr, hml, hlocks, hin, hown, hw, hAe, hA, hK, hG, hP, hD, hS⟩ := id C0
  have hown : s.vm.findClass "TwoLevelParser$Text" = some m.cls := hown
  have hl : lv_has ls 3 [(0, .long nm)] := hl
  refine lv_iconst (v := 0) hx hb dc_T_wordOf_0 (by decide) ?_
  refine lv_istore_n (lv' := [(2, .int 0), (0, .long nm)]) hx hb dc_T_wordOf_1 rfl hl (by decide) rfl (fun ls hl => ?_)
  rw [show (0 : Int32) = nI 0 from nI_0.symm] at hl
  exact zt_wl nm C0 23 0 (by omega) rfl _ (lv_sub hl [0, 1] rfl)
