/-! addRow -/
def zr_cap (rows cap : Nat) : Nat := if rows < cap then cap else 2 * cap
def zr_gc (rows cap : Nat) : Nat := 2 * (zr_cap rows cap - cap)
def zr_gs (k rows cap : Nat) : Nat := 2 * (zr_cap rows cap - cap) * k
def zr_new {α : Type} (f : Nat → Nat → α) (i : Nat) (v : α) : Nat → Nat → α := fun a b => if a = i then v else f a b
theorem zr_set_in {α : Type} {w rows i j : Nat} {f : Nat → Nat → α} {v : α} (hi : i < rows) (hj : j < w) (hr : rows < 2 ^ 31) (hw : w < 2 ^ 31) : zr_set w rows f (nI i) (nI j) v = zr_up f i j v := by
  rw [zr_set, if_neg (nI_pos (by omega)), if_neg (nI_ge hi hr), if_neg (nI_pos (by omega)), if_neg (nI_ge hj hw), nI_clamp (by omega), nI_clamp (by omega)]
theorem zr_num_in {w rows i j : Nat} {f : Nat → Nat → Int32} (hi : i < rows) (hj : j < w) (hr : rows < 2 ^ 31) (hw : w < 2 ^ 31) : zr_num w rows f (nI i) (nI j) = f i j := by
  rw [zr_num, if_neg (nI_pos (by omega)), if_neg (nI_ge hi hr), if_neg (nI_pos (by omega)), if_neg (nI_ge hj hw), nI_clamp (by omega), nI_clamp (by omega)]
theorem zr_nam_in {w rows i j : Nat} {f : Nat → Nat → Int64} (hi : i < rows) (hj : j < w) (hr : rows < 2 ^ 31) (hw : w < 2 ^ 31) : zr_nam w rows f (nI i) (nI j) = f i j := by
  rw [zr_nam, if_neg (nI_pos (by omega)), if_neg (nI_ge hi hr), if_neg (nI_pos (by omega)), if_neg (nI_ge hj hw), nI_clamp (by omega), nI_clamp (by omega)]
theorem zr_ok_eq {w nw rows cap : Nat} {num num' : Nat → Nat → Int32} {nam nam' : Nat → Nat → Int64} {fN : Nat → Int32} {fL : Nat → Int64} (ok : zr_ok w nw rows cap num nam fN fL) (h1 : ∀ i j, i < rows → j < w → num i j = num' i j) (h2 : ∀ i j, i < rows → j < nw → nam i j = nam' i j) : zr_ok w nw rows cap num' nam' fN fL := by
  obtain ⟨q1, q2, q3, q4, q5, q6, q7, q8⟩ := ok
  exact ⟨q1, q2, q3, q4, q5, q6, q7, fun i hi => ⟨fun j hj => by rw [(q8 i hi).1 j hj, h1 i j hi hj], fun j hj => by rw [(q8 i hi).2 j hj, h2 i j hi hj]⟩⟩

set_option maxHeartbeats 4000000 in
set_option maxRecDepth 100000 in
theorem zr_l1 {p : Program} {l : Launch} {e : Env} {s : State} {m : MethodId} {args : Array Value} {below : List Frame} {meth : Method} {c : Code} {Q : State → Prop} {A : Nat → Prop} {wc0 : va_W} {Y : zz_Y} {h w nw rows cap0 : Nat} {cap cells slots : Nat} {nam : Nat → Nat → Int64} (hr1 : rows < 8192) (hc1 : cells ≤ zr_gc rows cap0) (hc2 : slots ≤ zr_gs (w + nw) rows cap0) (C0 : zz_At p s m args meth c Y yn_R_addRow bc_R_addRow 3 (some .int) wc0 A) :
    ∀ (n k : Nat), k + n = w → ∀ (num : Nat → Nat → Int32) (a1 a2 : Nat) (fN : Nat → Int32) (fL : Nat → Int64) (H : Heap) (locs : List Loc) (ls : Array Slot), zr_ok w nw (rows + 1) cap num nam fN fL → va_P Y.1 vwCl [(h, .inr (1, [.int (nI w), .int (nI nw), .ref a1, .ref a2, .int (nI (rows + 1))])), (a1, .inl (Y.2.1.2.1, cap * w, .inl fN)), (a2, .inl (Y.2.1.2.2, cap * nw, .inr (.inl fL)))] H → va_D A [(h, .inr (1, [.int (nI w), .int (nI nw), .ref a1, .ref a2, .int (nI (rows + 1))])), (a1, .inl (Y.2.1.2.1, cap * w, .inl fN)), (a2, .inl (Y.2.1.2.2, cap * nw, .inr (.inl fL)))] → va_S A s.heap H locs → lv_has ls 3 [(0, .ref h), (1, .int (nI rows)), (2, .int (nI k))] →
    (∀ (num' : Nat → Nat → Int32) (a1' a2' : Nat) (fN' : Nat → Int32) (fL' : Nat → Int64) (H' : Heap) (locs' : List Loc) (ls' : Array Slot), zr_ok w nw (rows + 1) cap num' nam fN' fL' → (∀ a b, num' a b = if a = rows ∧ k ≤ b ∧ b < w then -1 else num a b) → va_P Y.1 vwCl [(h, .inr (1, [.int (nI w), .int (nI nw), .ref a1', .ref a2', .int (nI (rows + 1))])), (a1', .inl (Y.2.1.2.1, cap * w, .inl fN')), (a2', .inl (Y.2.1.2.2, cap * nw, .inr (.inl fL')))] H' → va_D A [(h, .inr (1, [.int (nI w), .int (nI nw), .ref a1', .ref a2', .int (nI (rows + 1))])), (a1', .inl (Y.2.1.2.1, cap * w, .inl fN')), (a2', .inl (Y.2.1.2.2, cap * nw, .inr (.inl fL')))] → va_S A s.heap H' locs' → lv_has ls' 3 [(0, .ref h), (1, .int (nI rows))] → W p l e (headSpec (zz_ws yn_R_addRow bc_R_addRow 3 (some .int)) { frames := 2, cells := zr_gc rows cap0, slots := zr_gs (w + nw) rows cap0, locals := 82 }).room s m args below meth c H' locs' cells slots Q (F0 m 90 ls' [])) →
    W p l e (headSpec (zz_ws yn_R_addRow bc_R_addRow 3 (some .int)) { frames := 2, cells := zr_gc rows cap0, slots := zr_gs (w + nw) rows cap0, locals := 82 }).room s m args below meth c H locs cells slots Q (F0 m 69 ls []) := by
  obtain ⟨hx, hb, hr, hml, hlocks, hin, hown, hw, hAe, hA, hK, hG, -, -, -⟩ := C0
  have hown : s.vm.findClass "TwoLevelParser$Records" = some m.cls := hown
  intro n
  induction n with
  | zero =>
    intro k hk num a1 a2 fN fL H locs ls ok hP hD hS hl kk
    have hwb := ok.2.1
    have hnb := ok.2.2.2.1
    refine lv_iload_n hx hb dc_R_addRow_69 rfl (lv_at hl 2 rfl) ?_
    refine lv_aload_n hx hb dc_R_addRow_70 rfl (lv_at hl 0 rfl) ?_
    refine va_get (D := Y.1) (ci := 1) (v := .int (nI w)) (C := rn_R) (T := tf_R) (N := 5) hx hb hw wi_R hown hK hP 0 rfl rfl 0 (by decide) (hw _ kw_132) (fun _ h9 => h9) rfl dc_R_addRow_71 ?_
    refine lv_icmp_ge (tgt := 90) hx hb dc_R_addRow_74 (by decide) (fun _ => ?_) (fun c9 => absurd (nI_le (by omega) (by omega)) c9)
    exact kk num a1 a2 fN fL H locs ls ok (fun a b => by rw [if_neg (by omega)]) hP hD hS (lv_sub hl [0, 1] rfl)
  | succ n ih =>
    intro k hk num a1 a2 fN fL H locs ls ok hP hD hS hl kk
    have hwb := ok.2.1
    have hnb := ok.2.2.2.1
    refine lv_iload_n hx hb dc_R_addRow_69 rfl (lv_at hl 2 rfl) ?_
    refine lv_aload_n hx hb dc_R_addRow_70 rfl (lv_at hl 0 rfl) ?_
    refine va_get (D := Y.1) (ci := 1) (v := .int (nI w)) (C := rn_R) (T := tf_R) (N := 5) hx hb hw wi_R hown hK hP 0 rfl rfl 0 (by decide) (hw _ kw_132) (fun _ h9 => h9) rfl dc_R_addRow_71 ?_
    refine lv_icmp_ge (tgt := 90) hx hb dc_R_addRow_74 (by decide) (fun c9 => absurd c9 (nI_ge (by omega) (by omega))) (fun _ => ?_)
    refine lv_aload_n hx hb dc_R_addRow_77 rfl (lv_at hl 0 rfl) ?_
    refine lv_iload_n hx hb dc_R_addRow_78 rfl (lv_at hl 1 rfl) ?_
    refine lv_iload_n hx hb dc_R_addRow_79 rfl (lv_at hl 2 rfl) ?_
    refine lv_iconst (v := (-1)) hx hb dc_R_addRow_80 (by decide) ?_
    refine zz_goV (wc := [(h, .inr (1, [.int (nI w), .int (nI nw), .ref a1, .ref a2, .int (nI (rows + 1))])), (a1, .inl (Y.2.1.2.1, cap * w, .inl fN)), (a2, .inl (Y.2.1.2.2, cap * nw, .inr (.inl fL)))]) (wr := []) (va_runV (As := [.int (nI rows), .int (nI k), .int (-1)]) (rest := []) ⟨hx, hb, hml, hown, hw⟩ (ct_R_setNumber l Y ⟨a1, a2, fN, fL, rfl, ok⟩ (nI rows) (nI k) (-1) _) (cwV 3 hw (zz_gV kw_394 kw_367 kw_368 kw_63 kw_369) rfl rfl rfl (by decide +kernel) ⟨Nat.le_of_ble_eq_true rfl, Nat.le_of_ble_eq_true rfl⟩) (zz_preV hK hG hA hP hD hS [0, 1, 2] rfl (by decide) rfl rfl) rfl rfl hl.1 rfl (lv_room (Nat.le_of_ble_eq_true rfl)) dc_R_addRow_81 ⟨hc1, hc2⟩) hA hP hD hS [0, 1, 2] [] rfl rfl (by decide) (by decide) (fun w1 H locs hw1 hP hD hS => ?_)
    obtain ⟨a1', a2', fN', fL', rfl, ok'⟩ := hw1
    rw [zr_set_in (by omega) (by omega) (by omega) (by omega)] at ok'
    have hP : va_P Y.1 vwCl [(h, .inr (1, [.int (nI w), .int (nI nw), .ref a1', .ref a2', .int (nI (rows + 1))])), (a1', .inl (Y.2.1.2.1, cap * w, .inl fN')), (a2', .inl (Y.2.1.2.2, cap * nw, .inr (.inl fL')))] H := hP
    have hD : va_D A [(h, .inr (1, [.int (nI w), .int (nI nw), .ref a1', .ref a2', .int (nI (rows + 1))])), (a1', .inl (Y.2.1.2.1, cap * w, .inl fN')), (a2', .inl (Y.2.1.2.2, cap * nw, .inr (.inl fL')))] := hD
    refine W.widen (k := cells) (n := slots) (Nat.le_refl _) (Nat.le_refl _) ?_
    refine lv_iinc (v := (nI (k + 1))) (lv' := [(2, .int (nI (k + 1))), (0, .ref h), (1, .int (nI rows))]) hx hb dc_R_addRow_84 hl (k := 2) rfl (nI_1 k) (by decide) rfl (fun ls hl => ?_)
    refine lv_goto (tgt := 69) hx hb dc_R_addRow_87 (by decide) ?_
    refine ih (k + 1) (by omega) _ a1' a2' fN' fL' _ _ _ ok' hP hD hS (lv_sub hl [1, 2, 0] rfl) (fun num2 b1 b2 gN gL H2 locs2 ls2 ok2 e2 hP2 hD2 hS2 hl2 => kk num2 b1 b2 gN gL H2 locs2 ls2 ok2 (fun a b => ?_) hP2 hD2 hS2 hl2)
    rw [e2, zr_up]
    by_cases q1 : a = rows ∧ k + 1 ≤ b ∧ b < w
    · rw [if_pos q1, if_pos (by omega)]
    · rw [if_neg q1]
      by_cases q2 : a = rows ∧ b = k
      · rw [if_pos q2, if_pos (by omega)]
      · rw [if_neg q2, if_neg (by omega)]

set_option maxHeartbeats 4000000 in
set_option maxRecDepth 100000 in
theorem zr_l2 {p : Program} {l : Launch} {e : Env} {s : State} {m : MethodId} {args : Array Value} {below : List Frame} {meth : Method} {c : Code} {Q : State → Prop} {A : Nat → Prop} {wc0 : va_W} {Y : zz_Y} {h w nw rows cap0 : Nat} {cap cells slots : Nat} {num : Nat → Nat → Int32} (hr1 : rows < 8192) (hc1 : cells ≤ zr_gc rows cap0) (hc2 : slots ≤ zr_gs (w + nw) rows cap0) (C0 : zz_At p s m args meth c Y yn_R_addRow bc_R_addRow 3 (some .int) wc0 A) :
    ∀ (n k : Nat), k + n = nw → ∀ (nam : Nat → Nat → Int64) (a1 a2 : Nat) (fN : Nat → Int32) (fL : Nat → Int64) (H : Heap) (locs : List Loc) (ls : Array Slot), zr_ok w nw (rows + 1) cap num nam fN fL → va_P Y.1 vwCl [(h, .inr (1, [.int (nI w), .int (nI nw), .ref a1, .ref a2, .int (nI (rows + 1))])), (a1, .inl (Y.2.1.2.1, cap * w, .inl fN)), (a2, .inl (Y.2.1.2.2, cap * nw, .inr (.inl fL)))] H → va_D A [(h, .inr (1, [.int (nI w), .int (nI nw), .ref a1, .ref a2, .int (nI (rows + 1))])), (a1, .inl (Y.2.1.2.1, cap * w, .inl fN)), (a2, .inl (Y.2.1.2.2, cap * nw, .inr (.inl fL)))] → va_S A s.heap H locs → lv_has ls 3 [(0, .ref h), (1, .int (nI rows)), (2, .int (nI k))] →
    (∀ (nam' : Nat → Nat → Int64) (a1' a2' : Nat) (fN' : Nat → Int32) (fL' : Nat → Int64) (H' : Heap) (locs' : List Loc) (ls' : Array Slot), zr_ok w nw (rows + 1) cap num nam' fN' fL' → (∀ a b, nam' a b = if a = rows ∧ k ≤ b ∧ b < nw then 0 else nam a b) → va_P Y.1 vwCl [(h, .inr (1, [.int (nI w), .int (nI nw), .ref a1', .ref a2', .int (nI (rows + 1))])), (a1', .inl (Y.2.1.2.1, cap * w, .inl fN')), (a2', .inl (Y.2.1.2.2, cap * nw, .inr (.inl fL')))] H' → va_D A [(h, .inr (1, [.int (nI w), .int (nI nw), .ref a1', .ref a2', .int (nI (rows + 1))])), (a1', .inl (Y.2.1.2.1, cap * w, .inl fN')), (a2', .inl (Y.2.1.2.2, cap * nw, .inr (.inl fL')))] → va_S A s.heap H' locs' → lv_has ls' 3 [(0, .ref h), (1, .int (nI rows))] → W p l e (headSpec (zz_ws yn_R_addRow bc_R_addRow 3 (some .int)) { frames := 2, cells := zr_gc rows cap0, slots := zr_gs (w + nw) rows cap0, locals := 82 }).room s m args below meth c H' locs' cells slots Q (F0 m 113 ls' [])) →
    W p l e (headSpec (zz_ws yn_R_addRow bc_R_addRow 3 (some .int)) { frames := 2, cells := zr_gc rows cap0, slots := zr_gs (w + nw) rows cap0, locals := 82 }).room s m args below meth c H locs cells slots Q (F0 m 92 ls []) := by
  obtain ⟨hx, hb, hr, hml, hlocks, hin, hown, hw, hAe, hA, hK, hG, -, -, -⟩ := C0
  have hown : s.vm.findClass "TwoLevelParser$Records" = some m.cls := hown
  intro n
  induction n with
  | zero =>
    intro k hk nam a1 a2 fN fL H locs ls ok hP hD hS hl kk
    have hwb := ok.2.1
    have hnb := ok.2.2.2.1
    refine lv_iload_n hx hb dc_R_addRow_92 rfl (lv_at hl 2 rfl) ?_
    refine lv_aload_n hx hb dc_R_addRow_93 rfl (lv_at hl 0 rfl) ?_
    refine va_get (D := Y.1) (ci := 1) (v := .int (nI nw)) (C := rn_R) (T := tf_R) (N := 5) hx hb hw wi_R hown hK hP 0 rfl rfl 1 (by decide) (hw _ kw_133) (fun _ h9 => h9) rfl dc_R_addRow_94 ?_
    refine lv_icmp_ge (tgt := 113) hx hb dc_R_addRow_97 (by decide) (fun _ => ?_) (fun c9 => absurd (nI_le (by omega) (by omega)) c9)
    exact kk nam a1 a2 fN fL H locs ls ok (fun a b => by rw [if_neg (by omega)]) hP hD hS (lv_sub hl [0, 1] rfl)
  | succ n ih =>
    intro k hk nam a1 a2 fN fL H locs ls ok hP hD hS hl kk
    have hwb := ok.2.1
    have hnb := ok.2.2.2.1
    refine lv_iload_n hx hb dc_R_addRow_92 rfl (lv_at hl 2 rfl) ?_
    refine lv_aload_n hx hb dc_R_addRow_93 rfl (lv_at hl 0 rfl) ?_
    refine va_get (D := Y.1) (ci := 1) (v := .int (nI nw)) (C := rn_R) (T := tf_R) (N := 5) hx hb hw wi_R hown hK hP 0 rfl rfl 1 (by decide) (hw _ kw_133) (fun _ h9 => h9) rfl dc_R_addRow_94 ?_
    refine lv_icmp_ge (tgt := 113) hx hb dc_R_addRow_97 (by decide) (fun c9 => absurd c9 (nI_ge (by omega) (by omega))) (fun _ => ?_)
    refine lv_aload_n hx hb dc_R_addRow_100 rfl (lv_at hl 0 rfl) ?_
    refine lv_iload_n hx hb dc_R_addRow_101 rfl (lv_at hl 1 rfl) ?_
    refine lv_iload_n hx hb dc_R_addRow_102 rfl (lv_at hl 2 rfl) ?_
    refine lv_lconst (v := 0) hx hb dc_R_addRow_103 (by decide) ?_
    refine zz_goV (wc := [(h, .inr (1, [.int (nI w), .int (nI nw), .ref a1, .ref a2, .int (nI (rows + 1))])), (a1, .inl (Y.2.1.2.1, cap * w, .inl fN)), (a2, .inl (Y.2.1.2.2, cap * nw, .inr (.inl fL)))]) (wr := []) (va_runV (As := [.int (nI rows), .int (nI k), .long 0]) (rest := []) ⟨hx, hb, hml, hown, hw⟩ (ct_R_setName l Y ⟨a1, a2, fN, fL, rfl, ok⟩ (nI rows) (nI k) 0 _) (cwV 3 hw (zz_gV kw_395 kw_396 kw_397 kw_63 kw_398) rfl rfl rfl (by decide +kernel) ⟨Nat.le_of_ble_eq_true rfl, Nat.le_of_ble_eq_true rfl⟩) (zz_preV hK hG hA hP hD hS [0, 1, 2] rfl (by decide) rfl rfl) rfl rfl hl.1 rfl (lv_room (Nat.le_of_ble_eq_true rfl)) dc_R_addRow_104 ⟨hc1, hc2⟩) hA hP hD hS [0, 1, 2] [] rfl rfl (by decide) (by decide) (fun w1 H locs hw1 hP hD hS => ?_)
    obtain ⟨a1', a2', fN', fL', rfl, ok'⟩ := hw1
    rw [zr_set_in (by omega) (by omega) (by omega) (by omega)] at ok'
    have hP : va_P Y.1 vwCl [(h, .inr (1, [.int (nI w), .int (nI nw), .ref a1', .ref a2', .int (nI (rows + 1))])), (a1', .inl (Y.2.1.2.1, cap * w, .inl fN')), (a2', .inl (Y.2.1.2.2, cap * nw, .inr (.inl fL')))] H := hP
    have hD : va_D A [(h, .inr (1, [.int (nI w), .int (nI nw), .ref a1', .ref a2', .int (nI (rows + 1))])), (a1', .inl (Y.2.1.2.1, cap * w, .inl fN')), (a2', .inl (Y.2.1.2.2, cap * nw, .inr (.inl fL')))] := hD
    refine W.widen (k := cells) (n := slots) (Nat.le_refl _) (Nat.le_refl _) ?_
    refine lv_iinc (v := (nI (k + 1))) (lv' := [(2, .int (nI (k + 1))), (0, .ref h), (1, .int (nI rows))]) hx hb dc_R_addRow_107 hl (k := 2) rfl (nI_1 k) (by decide) rfl (fun ls hl => ?_)
    refine lv_goto (tgt := 92) hx hb dc_R_addRow_110 (by decide) ?_
    refine ih (k + 1) (by omega) _ a1' a2' fN' fL' _ _ _ ok' hP hD hS (lv_sub hl [1, 2, 0] rfl) (fun nam2 b1 b2 gN gL H2 locs2 ls2 ok2 e2 hP2 hD2 hS2 hl2 => kk nam2 b1 b2 gN gL H2 locs2 ls2 ok2 (fun a b => ?_) hP2 hD2 hS2 hl2)
    rw [e2, zr_up]
    by_cases q1 : a = rows ∧ k + 1 ≤ b ∧ b < nw
    · rw [if_pos q1, if_pos (by omega)]
    · rw [if_neg q1]
      by_cases q2 : a = rows ∧ b = k
      · rw [if_pos q2, if_pos (by omega)]
      · rw [if_neg q2, if_neg (by omega)]

set_option maxHeartbeats 4000000 in
set_option maxRecDepth 100000 in
theorem zr_tail {p : Program} {l : Launch} {e : Env} {s : State} {m : MethodId} {args : Array Value} {below : List Frame} {meth : Method} {c : Code} {A : Nat → Prop} {wc0 : va_W} {Y : zz_Y} {h w nw rows cap0 : Nat} {cap cells slots sz : Nat} {num0 : Nat → Nat → Int32} {nam0 : Nat → Nat → Int64} (hr1 : rows < 8192) (hc1 : cells ≤ zr_gc rows cap0) (hc2 : slots ≤ zr_gs (w + nw) rows cap0) (C0 : zz_At p s m args meth c Y yn_R_addRow bc_R_addRow 3 (some .int) wc0 A) (hsz : s.heap.size = sz) (hcap : zr_cap rows cap0 = cap) (hlt : rows < cap)
    (a1 a2 : Nat) (fN : Nat → Int32) (fL : Nat → Int64) (H : Heap) (locs : List Loc) (ls : Array Slot) (ok : zr_ok w nw rows cap num0 nam0 fN fL) (hP : va_P Y.1 vwCl [(h, .inr (1, [.int (nI w), .int (nI nw), .ref a1, .ref a2, .int (nI rows)])), (a1, .inl (Y.2.1.2.1, cap * w, .inl fN)), (a2, .inl (Y.2.1.2.2, cap * nw, .inr (.inl fL)))] H) (hD : va_D A [(h, .inr (1, [.int (nI w), .int (nI nw), .ref a1, .ref a2, .int (nI rows)])), (a1, .inl (Y.2.1.2.1, cap * w, .inl fN)), (a2, .inl (Y.2.1.2.2, cap * nw, .inr (.inl fL)))]) (hS : va_S A s.heap H locs) (hl : lv_has ls 3 [(0, .ref h), (1, .int (nI rows))]) :
    W p l e (headSpec (zz_ws yn_R_addRow bc_R_addRow 3 (some .int)) { frames := 2, cells := zr_gc rows cap0, slots := zr_gs (w + nw) rows cap0, locals := 82 }).room s m args below meth c H locs cells slots (MQ below (va_Qi (fun r w1 => r = nI rows ∧ zr_OK Y h w nw (rows + 1) (zr_cap rows cap0) (zr_new num0 rows (-1)) (zr_new nam0 rows 0) w1) (zz_E Y wc0 sz) (va_A wc0 sz)) args s (zr_gc rows cap0) (zr_gs (w + nw) rows cap0) (va_A wc0 sz)) (F0 m 57 ls []) := by
  subst hsz
  obtain ⟨hx, hb, hr, hml, hlocks, hin, hown, hw, hAe, hA, hK, hG, -, -, -⟩ := id C0
  have hown : s.vm.findClass "TwoLevelParser$Records" = some m.cls := hown
  have ok1 : zr_ok w nw (rows + 1) cap (fun a b => if a = rows then fN (rows * w + b) else num0 a b) (fun a b => if a = rows then fL (rows * nw + b) else nam0 a b) fN fL := by
    obtain ⟨q1, q2, q3, q4, q5, q6, q7, q8⟩ := ok
    refine ⟨q1, q2, q3, q4, q5, hlt, q7, fun i hi => ⟨fun j hj => ?_, fun j hj => ?_⟩⟩
    · show fN (i * w + j) = if i = rows then fN (rows * w + j) else num0 i j
      by_cases e : i = rows
      · subst e; rw [if_pos rfl]
      · rw [if_neg e]; exact (q8 i (by omega)).1 j hj
    · show fL (i * nw + j) = if i = rows then fL (rows * nw + j) else nam0 i j
      by_cases e : i = rows
      · subst e; rw [if_pos rfl]
      · rw [if_neg e]; exact (q8 i (by omega)).2 j hj
  refine lv_aload_n hx hb dc_R_addRow_57 rfl (lv_at hl 0 rfl) ?_
  refine lv_dup hx hb dc_R_addRow_58 rfl ?_
  refine va_get (D := Y.1) (ci := 1) (v := .int (nI rows)) (C := rn_R) (T := tf_R) (N := 5) hx hb hw wi_R hown hK hP 0 rfl rfl 4 (by decide) (hw _ kw_136) (fun _ h9 => h9) rfl dc_R_addRow_59 ?_
  refine lv_iconst (v := 1) hx hb dc_R_addRow_62 (by decide) ?_
  refine lv_iadd hx hb dc_R_addRow_63 ?_
  rw [show (nI rows) + 1 = nI (rows + 1) from nI_1 rows]
  refine va_put (D := Y.1) (ci := 1) (v := .int (nI (rows + 1))) (ty := .int) (C := rn_R) (T := tf_R) (N := 5) hx hb hw wi_R ty_R ty_R_ok nm_R hown hK hP hD hS 0 rfl rfl 4 (by decide) (hw _ kw_136) (fun _ h9 => h9) rfl (by decide +kernel) rfl rfl (Nat.le_of_ble_eq_true rfl) dc_R_addRow_64 (fun H locs hP hD hS => ?_)
  have hP : va_P Y.1 vwCl [(h, .inr (1, [.int (nI w), .int (nI nw), .ref a1, .ref a2, .int (nI (rows + 1))])), (a1, .inl (Y.2.1.2.1, cap * w, .inl fN)), (a2, .inl (Y.2.1.2.2, cap * nw, .inr (.inl fL)))] H := hP
  have hD : va_D A [(h, .inr (1, [.int (nI w), .int (nI nw), .ref a1, .ref a2, .int (nI (rows + 1))])), (a1, .inl (Y.2.1.2.1, cap * w, .inl fN)), (a2, .inl (Y.2.1.2.2, cap * nw, .inr (.inl fL)))] := hD
  refine lv_iconst (v := 0) hx hb dc_R_addRow_67 (by decide) ?_
  refine lv_istore_n (lv' := [(2, .int 0), (0, .ref h), (1, .int (nI rows))]) hx hb dc_R_addRow_68 rfl hl (by decide) rfl (fun ls hl => ?_)
  rw [show (0 : Int32) = nI 0 from nI_0.symm] at hl
  refine zr_l1 hr1 hc1 hc2 C0 w 0 (by omega) _ a1 a2 fN fL _ _ _ ok1 hP hD hS (lv_sub hl [1, 2, 0] rfl) (fun num' a1' a2' fN' fL' H locs ls ok2 e1 hP hD hS hl => ?_)
  refine lv_iconst (v := 0) hx hb dc_R_addRow_90 (by decide) ?_
  refine lv_istore_n (lv' := [(2, .int 0), (0, .ref h), (1, .int (nI rows))]) hx hb dc_R_addRow_91 rfl hl (by decide) rfl (fun ls hl => ?_)
  rw [show (0 : Int32) = nI 0 from nI_0.symm] at hl
  refine zr_l2 hr1 hc1 hc2 C0 nw 0 (by omega) _ a1' a2' fN' fL' _ _ _ ok2 hP hD hS (lv_sub hl [1, 2, 0] rfl) (fun nam' b1 b2 gN gL H locs ls ok3 e3 hP hD hS hl => ?_)
  refine lv_iload_n hx hb dc_R_addRow_113 rfl (lv_at hl 1 rfl) ?_
  have ok4 : zr_ok w nw (rows + 1) cap (zr_new num0 rows (-1)) (zr_new nam0 rows 0) gN gL := by
    refine zr_ok_eq ok3 (fun i j hi hj => ?_) (fun i j hi hj => ?_)
    · rw [e1, zr_new]
      by_cases q : i = rows
      · rw [if_pos ⟨q, Nat.zero_le _, hj⟩, if_pos q]
      · rw [if_neg (fun z => q z.1), if_neg q, if_neg q]
    · rw [e3, zr_new]
      by_cases q : i = rows
      · rw [if_pos ⟨q, Nat.zero_le _, hj⟩, if_pos q]
      · rw [if_neg (fun z => q z.1), if_neg q, if_neg q]
  exact zz_iret (w1 := [(h, .inr (1, [.int (nI w), .int (nI nw), .ref b1, .ref b2, .int (nI (rows + 1))])), (b1, .inl (Y.2.1.2.1, cap * w, .inl gN)), (b2, .inl (Y.2.1.2.2, cap * nw, .inr (.inl gL)))]) hx hb hr rfl hlocks hAe hP hD hS [0, 1, 2] rfl (by decide) ⟨rfl, b1, b2, gN, gL, by rw [hcap], by rw [hcap]; exact ok4⟩ hc1 hc2 dc_R_addRow_114

set_option maxHeartbeats 4000000 in
set_option maxRecDepth 100000 in
theorem ct_R_addRow (l : Launch) (Y : zz_Y) {h w nw rows cap0 : Nat} {num0 : Nat → Nat → Int32} {nam0 : Nat → Nat → Int64} {wc : va_W} (hok : zr_OK Y h w nw rows cap0 num0 nam0 wc) (hr1 : rows < 8192) : zz_I l Y yn_R_addRow bc_R_addRow 3 (some .int) { frames := 2, cells := zr_gc rows cap0, slots := zr_gs (w + nw) rows cap0, locals := 82 } [.ref h] wc (fun r w1 => r = nI rows ∧ zr_OK Y h w nw (rows + 1) (zr_cap rows cap0) (zr_new num0 rows (-1)) (zr_new nam0 rows 0) w1) := by
  intro sz
  obtain ⟨a1, a2, fN, fL, rfl, ok⟩ := hok
  refine zz_of (cc := bc_R_addRow) (maxL := 3) (ret := (some .int)) (by decide) (Nat.le_of_ble_eq_true rfl) ?_
  intro p e s m below meth c A ls hsz C0 hl
  obtain ⟨hx, hb, hr, hml, hlocks, hin, hown, hw, hAe, hA, hK, hG, hP, hD, hS⟩ := id C0
  have hown : s.vm.findClass "TwoLevelParser$Records" = some m.cls := hown
  have hl : lv_has ls 3 [(0, .ref h)] := hl
  obtain ⟨q1, q2, q3, q4, q5, q6, q7, q8⟩ := id ok
  have hb1 : (rows + 1) * w ≤ 16384 * 16 := Nat.mul_le_mul (by omega) q2
  have hb2 : cap0 * w ≤ 16384 * 16 := Nat.mul_le_mul q7 q2
  have hb3 : cap0 * nw ≤ 16384 * 16 := Nat.mul_le_mul q7 q4
  have hb5 : 1 * w ≤ cap0 * w := Nat.mul_le_mul_right w (by omega)
  have hb6 : 1 * nw ≤ cap0 * nw := Nat.mul_le_mul_right nw (by omega)
  refine lv_aload_n hx hb dc_R_addRow_0 rfl (lv_at hl 0 rfl) ?_
  refine va_get (D := Y.1) (ci := 1) (v := .int (nI rows)) (C := rn_R) (T := tf_R) (N := 5) hx hb hw wi_R hown hK hP 0 rfl rfl 4 (by decide) (hw _ kw_136) (fun _ h9 => h9) rfl dc_R_addRow_1 ?_
  refine lv_istore_n (lv' := [(1, .int (nI rows)), (0, .ref h)]) hx hb dc_R_addRow_4 rfl hl (by decide) rfl (fun ls hl => ?_)
  refine lv_iload_n hx hb dc_R_addRow_5 rfl (lv_at hl 0 rfl) ?_
  refine lv_iconst (v := 1) hx hb dc_R_addRow_6 (by decide) ?_
  refine lv_iadd hx hb dc_R_addRow_7 ?_
  rw [show (nI rows) + 1 = nI (rows + 1) from nI_1 rows]
  refine lv_aload_n hx hb dc_R_addRow_8 rfl (lv_at hl 1 rfl) ?_
  refine va_get (D := Y.1) (ci := 1) (v := .int (nI w)) (C := rn_R) (T := tf_R) (N := 5) hx hb hw wi_R hown hK hP 0 rfl rfl 0 (by decide) (hw _ kw_132) (fun _ h9 => h9) rfl dc_R_addRow_9 ?_
  refine lv_imul hx hb dc_R_addRow_12 ?_
  rw [show (nI (rows + 1)) * (nI w) = nI ((rows + 1) * w) from pk_mul _ _]
  refine lv_aload_n hx hb dc_R_addRow_13 rfl (lv_at hl 1 rfl) ?_
  refine va_get (D := Y.1) (ci := 1) (v := .ref a1) (C := rn_R) (T := tf_R) (N := 5) hx hb hw wi_R hown hK hP 0 rfl rfl 2 (by decide) (hw _ kw_134) (fun _ h9 => h9) rfl dc_R_addRow_14 ?_
  refine va_alen (D := Y.1) (v := nI (cap0 * w)) hx hb hK hP 1 1 rfl rfl rfl dc_R_addRow_17 ?_
  refine lv_icmp_le (tgt := 57) hx hb dc_R_addRow_18 (by decide) (fun c_1 => ?_) (fun c_1 => ?_)
  · skip
    have hc9 : (rows + 1) * w ≤ cap0 * w := (nI_leI (by omega) (by omega)).mp c_1
    have hlt : rows < cap0 := Nat.le_of_mul_le_mul_right hc9 (by omega)
    exact zr_tail hr1 (Nat.zero_le _) (Nat.zero_le _) C0 hsz (if_pos hlt) hlt a1 a2 fN fL _ _ _ ok hP hD hS (lv_sub hl [1, 0] rfl)
  · skip
    have hge : ¬ rows < cap0 := fun q => c_1 (nI_le (Nat.mul_le_mul_right w q) (by omega))
    have hrc : rows = cap0 := by omega
    have hg0 : zr_cap rows cap0 = 2 * cap0 := if_neg hge
    have hg1 : zr_gc rows cap0 = 2 * cap0 := by rw [zr_gc, hg0]; omega
    have hg2 : zr_gs (w + nw) rows cap0 = 2 * cap0 * w + 2 * cap0 * nw := by rw [zr_gs, hg0, ← Nat.mul_add, show 2 * cap0 - cap0 = cap0 by omega]
    refine lv_aload_n hx hb dc_R_addRow_21 rfl (lv_at hl 1 rfl) ?_
    refine lv_aload_n hx hb dc_R_addRow_22 rfl (lv_at hl 1 rfl) ?_
    refine va_get (D := Y.1) (ci := 1) (v := .ref a1) (C := rn_R) (T := tf_R) (N := 5) hx hb hw wi_R hown hK hP 0 rfl rfl 2 (by decide) (hw _ kw_134) (fun _ h9 => h9) rfl dc_R_addRow_23 ?_
    refine lv_iconst (v := 2) hx hb dc_R_addRow_26 (by decide) ?_
    refine lv_aload_n hx hb dc_R_addRow_27 rfl (lv_at hl 1 rfl) ?_
    refine va_get (D := Y.1) (ci := 1) (v := .ref a1) (C := rn_R) (T := tf_R) (N := 5) hx hb hw wi_R hown hK hP 0 rfl rfl 2 (by decide) (hw _ kw_134) (fun _ h9 => h9) rfl dc_R_addRow_28 ?_
    refine va_alen (D := Y.1) (v := nI (cap0 * w)) hx hb hK hP 1 1 rfl rfl rfl dc_R_addRow_31 ?_
    refine lv_imul hx hb dc_R_addRow_32 ?_
    rw [show 2 * (nI (cap0 * w)) = nI (2 * cap0 * w) from by rw [Nat.mul_assoc]; exact pk_mul 2 _]
    refine zz_goR (wc := [(a1, .inl (Y.2.1.2.1, cap0 * w, .inl fN))]) (wr := [(h, .inr (1, [.int (nI w), .int (nI nw), .ref a1, .ref a2, .int (nI rows)])), (a2, .inl (Y.2.1.2.2, cap0 * nw, .inr (.inl fL)))]) (va_runS (As := [.ref a1, .int (nI (2 * cap0 * w))]) (rest := [.ref h]) ⟨hx, hb, hml, hown, hw⟩ (ct_Ja_copyOf_iIi l Y a1 (cap0 * w) (2 * cap0 * w) fN (by rw [Nat.mul_assoc]; omega) (by rw [Nat.mul_assoc]; omega) _) (va_cwS 2 hw (zz_gS kw_378 kw_379 kw_66 kw_380) rfl rfl rfl (by decide +kernel) ⟨Nat.le_of_ble_eq_true rfl, Nat.le_of_ble_eq_true rfl⟩) (zz_preS hK hG hA hP hD hS [1] rfl (by decide)) rfl rfl hl.1 rfl (lv_room (Nat.le_of_ble_eq_true rfl)) dc_R_addRow_33 ⟨by show 0 + 1 ≤ zr_gc rows cap0; omega, by show 0 + 2 * cap0 * w ≤ zr_gs (w + nw) rows cap0; omega⟩) hA hP hD hS [1] [0, 2] rfl rfl (by decide) (by decide) (fun e1 w1 H locs hw1 hP hD hS => ?_)
    subst hw1
    refine W.widen (k := 1) (n := 2 * cap0 * w) (Nat.le_of_eq (Nat.zero_add _)) (Nat.le_of_eq (Nat.zero_add _)) ?_
    have hP : va_P Y.1 vwCl [(h, .inr (1, [.int (nI w), .int (nI nw), .ref a1, .ref a2, .int (nI rows)])), (a2, .inl (Y.2.1.2.2, cap0 * nw, .inr (.inl fL))), (a1, .inl (Y.2.1.2.1, cap0 * w, .inl fN)), (e1, .inl (Y.2.1.2.1, 2 * cap0 * w, .inl (va_cpy fN (fun _ => 0) 0 0 (cap0 * w))))] H := hP
    have hD : va_D A [(h, .inr (1, [.int (nI w), .int (nI nw), .ref a1, .ref a2, .int (nI rows)])), (a2, .inl (Y.2.1.2.2, cap0 * nw, .inr (.inl fL))), (a1, .inl (Y.2.1.2.1, cap0 * w, .inl fN)), (e1, .inl (Y.2.1.2.1, 2 * cap0 * w, .inl (va_cpy fN (fun _ => 0) 0 0 (cap0 * w))))] := hD
    refine va_put (D := Y.1) (ci := 1) (v := .ref e1) (ty := .array .int) (C := rn_R) (T := tf_R) (N := 5) hx hb hw wi_R ty_R ty_R_ok nm_R hown hK hP hD hS 0 rfl rfl 2 (by decide) (hw _ kw_134) (fun _ h9 => h9) rfl (by decide +kernel) rfl rfl (Nat.le_of_ble_eq_true rfl) dc_R_addRow_36 (fun H locs hP hD hS => ?_)
    have hP : va_P Y.1 vwCl [(h, .inr (1, [.int (nI w), .int (nI nw), .ref e1, .ref a2, .int (nI rows)])), (a2, .inl (Y.2.1.2.2, cap0 * nw, .inr (.inl fL))), (a1, .inl (Y.2.1.2.1, cap0 * w, .inl fN)), (e1, .inl (Y.2.1.2.1, 2 * cap0 * w, .inl (va_cpy fN (fun _ => 0) 0 0 (cap0 * w))))] H := hP
    have hD : va_D A [(h, .inr (1, [.int (nI w), .int (nI nw), .ref e1, .ref a2, .int (nI rows)])), (a2, .inl (Y.2.1.2.2, cap0 * nw, .inr (.inl fL))), (a1, .inl (Y.2.1.2.1, cap0 * w, .inl fN)), (e1, .inl (Y.2.1.2.1, 2 * cap0 * w, .inl (va_cpy fN (fun _ => 0) 0 0 (cap0 * w))))] := hD
    refine lv_aload_n hx hb dc_R_addRow_39 rfl (lv_at hl 1 rfl) ?_
    refine lv_aload_n hx hb dc_R_addRow_40 rfl (lv_at hl 1 rfl) ?_
    refine va_get (D := Y.1) (ci := 1) (v := .ref a2) (C := rn_R) (T := tf_R) (N := 5) hx hb hw wi_R hown hK hP 0 rfl rfl 3 (by decide) (hw _ kw_135) (fun _ h9 => h9) rfl dc_R_addRow_41 ?_
    refine lv_iconst (v := 2) hx hb dc_R_addRow_44 (by decide) ?_
    refine lv_aload_n hx hb dc_R_addRow_45 rfl (lv_at hl 1 rfl) ?_
    refine va_get (D := Y.1) (ci := 1) (v := .ref a2) (C := rn_R) (T := tf_R) (N := 5) hx hb hw wi_R hown hK hP 0 rfl rfl 3 (by decide) (hw _ kw_135) (fun _ h9 => h9) rfl dc_R_addRow_46 ?_
    refine va_alen (D := Y.1) (v := nI (cap0 * nw)) hx hb hK hP 1 2 rfl rfl rfl dc_R_addRow_49 ?_
    refine lv_imul hx hb dc_R_addRow_50 ?_
    rw [show 2 * (nI (cap0 * nw)) = nI (2 * cap0 * nw) from by rw [Nat.mul_assoc]; exact pk_mul 2 _]
    refine zz_goR (wc := [(a2, .inl (Y.2.1.2.2, cap0 * nw, .inr (.inl fL)))]) (wr := [(h, .inr (1, [.int (nI w), .int (nI nw), .ref e1, .ref a2, .int (nI rows)])), (a1, .inl (Y.2.1.2.1, cap0 * w, .inl fN)), (e1, .inl (Y.2.1.2.1, 2 * cap0 * w, .inl (va_cpy fN (fun _ => 0) 0 0 (cap0 * w))))]) (va_runS (As := [.ref a2, .int (nI (2 * cap0 * nw))]) (rest := [.ref h]) ⟨hx, hb, hml, hown, hw⟩ (ct_Ja_copyOf_jIj l Y a2 (cap0 * nw) (2 * cap0 * nw) fL (by rw [Nat.mul_assoc]; omega) (by rw [Nat.mul_assoc]; omega) _) (va_cwS 2 hw (zz_gS kw_386 kw_387 kw_66 kw_388) rfl rfl rfl (by decide +kernel) ⟨Nat.le_of_ble_eq_true rfl, Nat.le_of_ble_eq_true rfl⟩) (zz_preS hK hG hA hP hD hS [1] rfl (by decide)) rfl rfl hl.1 rfl (lv_room (Nat.le_of_ble_eq_true rfl)) dc_R_addRow_51 ⟨by show 1 + 1 ≤ zr_gc rows cap0; omega, by show 2 * cap0 * w + 2 * cap0 * nw ≤ zr_gs (w + nw) rows cap0; omega⟩) hA hP hD hS [1] [0, 2, 3] rfl rfl (by decide) (by decide) (fun e2 w1 H locs hw1 hP hD hS => ?_)
    subst hw1
    refine W.widen (k := 2) (n := 2 * cap0 * w + 2 * cap0 * nw) (Nat.le_refl _) (Nat.le_refl _) ?_
    have hP : va_P Y.1 vwCl [(h, .inr (1, [.int (nI w), .int (nI nw), .ref e1, .ref a2, .int (nI rows)])), (a1, .inl (Y.2.1.2.1, cap0 * w, .inl fN)), (e1, .inl (Y.2.1.2.1, 2 * cap0 * w, .inl (va_cpy fN (fun _ => 0) 0 0 (cap0 * w)))), (a2, .inl (Y.2.1.2.2, cap0 * nw, .inr (.inl fL))), (e2, .inl (Y.2.1.2.2, 2 * cap0 * nw, .inr (.inl (va_cpy fL (fun _ => 0) 0 0 (cap0 * nw)))))] H := hP
    have hD : va_D A [(h, .inr (1, [.int (nI w), .int (nI nw), .ref e1, .ref a2, .int (nI rows)])), (a1, .inl (Y.2.1.2.1, cap0 * w, .inl fN)), (e1, .inl (Y.2.1.2.1, 2 * cap0 * w, .inl (va_cpy fN (fun _ => 0) 0 0 (cap0 * w)))), (a2, .inl (Y.2.1.2.2, cap0 * nw, .inr (.inl fL))), (e2, .inl (Y.2.1.2.2, 2 * cap0 * nw, .inr (.inl (va_cpy fL (fun _ => 0) 0 0 (cap0 * nw)))))] := hD
    refine va_put (D := Y.1) (ci := 1) (v := .ref e2) (ty := .array .long) (C := rn_R) (T := tf_R) (N := 5) hx hb hw wi_R ty_R ty_R_ok nm_R hown hK hP hD hS 0 rfl rfl 3 (by decide) (hw _ kw_135) (fun _ h9 => h9) rfl (by decide +kernel) rfl rfl (Nat.le_of_ble_eq_true rfl) dc_R_addRow_54 (fun H locs hP hD hS => ?_)
    have hP : va_P Y.1 vwCl [(h, .inr (1, [.int (nI w), .int (nI nw), .ref e1, .ref e2, .int (nI rows)])), (a1, .inl (Y.2.1.2.1, cap0 * w, .inl fN)), (e1, .inl (Y.2.1.2.1, 2 * cap0 * w, .inl (va_cpy fN (fun _ => 0) 0 0 (cap0 * w)))), (a2, .inl (Y.2.1.2.2, cap0 * nw, .inr (.inl fL))), (e2, .inl (Y.2.1.2.2, 2 * cap0 * nw, .inr (.inl (va_cpy fL (fun _ => 0) 0 0 (cap0 * nw)))))] H := hP
    have hD : va_D A [(h, .inr (1, [.int (nI w), .int (nI nw), .ref e1, .ref e2, .int (nI rows)])), (a1, .inl (Y.2.1.2.1, cap0 * w, .inl fN)), (e1, .inl (Y.2.1.2.1, 2 * cap0 * w, .inl (va_cpy fN (fun _ => 0) 0 0 (cap0 * w)))), (a2, .inl (Y.2.1.2.2, cap0 * nw, .inr (.inl fL))), (e2, .inl (Y.2.1.2.2, 2 * cap0 * nw, .inr (.inl (va_cpy fL (fun _ => 0) 0 0 (cap0 * nw)))))] := hD
    have hP := hP.sub (ws' := [(h, .inr (1, [.int (nI w), .int (nI nw), .ref e1, .ref e2, .int (nI rows)])), (e1, .inl (Y.2.1.2.1, 2 * cap0 * w, .inl (va_cpy fN (fun _ => 0) 0 0 (cap0 * w)))), (e2, .inl (Y.2.1.2.2, 2 * cap0 * nw, .inr (.inl (va_cpy fL (fun _ => 0) 0 0 (cap0 * nw)))))]) [0, 2, 4] rfl
    have hD := hD.sub (ws' := [(h, .inr (1, [.int (nI w), .int (nI nw), .ref e1, .ref e2, .int (nI rows)])), (e1, .inl (Y.2.1.2.1, 2 * cap0 * w, .inl (va_cpy fN (fun _ => 0) 0 0 (cap0 * w)))), (e2, .inl (Y.2.1.2.2, 2 * cap0 * nw, .inr (.inl (va_cpy fL (fun _ => 0) 0 0 (cap0 * nw)))))]) [0, 2, 4] (by decide) rfl
    refine zr_tail (cap := 2 * cap0) hr1 (by show 2 ≤ zr_gc rows cap0; omega) (by show 2 * cap0 * w + 2 * cap0 * nw ≤ zr_gs (w + nw) rows cap0; omega) C0 hsz (if_neg hge) (by omega) e1 e2 _ _ _ _ _ ?_ hP hD hS (lv_sub hl [1, 0] rfl)
    refine ⟨q1, q2, q3, q4, by omega, by omega, by omega, fun i hi => ⟨fun j hj => ?_, fun j hj => ?_⟩⟩
    · have hz : (i + 1) * w ≤ cap0 * w := Nat.mul_le_mul_right w (by omega)
      rw [Nat.succ_mul] at hz
      rw [pk_cpy_in (Nat.zero_le _) (by omega), Nat.zero_add, Nat.sub_zero]
      exact (q8 i hi).1 j hj
    · have hz : (i + 1) * nw ≤ cap0 * nw := Nat.mul_le_mul_right nw (by omega)
      rw [Nat.succ_mul] at hz
      rw [pk_cpy_in (Nat.zero_le _) (by omega), Nat.zero_add, Nat.sub_zero]
      exact (q8 i hi).2 j hj
