/-! Arrays.copyOf to a longer array -/
section ZC
variable {p : Program} {l : Launch} {e : Env} {R : Room} {s : State} {m : MethodId} {args : Array Value} {below : List Frame} {meth : Method} {c : Code} {H : Heap} {locs : List Loc} {cells slots : Nat}
variable {pc : Nat} {ls : Array Slot} {Y : zz_Y} {A : Nat → Prop} {w0 wc : va_W} {cc : ByteArray}
theorem zz_aret {mc ms : Nat} {post : Nat → va_W → Prop} {a : Nat} {w1 : va_W} {rt : FieldType} (hx : p.tables.exec = Jvm.exec) (hb : c.code = cc) (hr : meth.sig.returnType = some rt) (hrt : (∃ n, rt = .object n) ∨ ∃ t, rt = .array t) (hlocks : meth.locks = false) (hAe : va_A wc s.heap.size = A)
    (hP : va_P Y.1 vwCl w0 H) (hD : va_D A w0) (hS : va_S A s.heap H locs) (is : List Nat) (his : is.map (fun i => w0[i]?) = w1.map some) (hnd : va_nd is = true) (hp : post a w1) (hc : cells ≤ mc) (hs : slots ≤ ms) (hdg : decode cc pc = .ok (.areturn, 1)) :
    W p l e R s m args below meth c H locs cells slots (MQ below (va_Qr (fun _ : va_W => True) (fun w1 a t => post a w1 ∧ zz_E Y wc s.heap.size w1 t) (va_A wc s.heap.size)) args s mc ms (va_A wc s.heap.size)) (F0 m pc ls [.ref a]) := by
  subst hAe
  refine W.widen (k := mc) (n := ms) hc hs ?_
  exact W.aret hx hb hr hrt (Or.inr ⟨a, rfl⟩) (fun t ht hW => ⟨⟨w1, a, rfl, trivial, hp, by rw [ht]; exact hP.sub is (zz_fm his), hD.sub is hnd his⟩, hS.F ht⟩) hS.2.2 hdg hlocks
end ZC
theorem zz_min {n N : Nat} (h : n ≤ N) (hN : N < 2 ^ 31) : (if nI N < nI n then nI N else nI n) = nI n := if_neg (nI_nlt h hN)

set_option maxHeartbeats 4000000 in
set_option maxRecDepth 100000 in
theorem ct_Ja_copyOf_bIb (l : Launch) (Y : zz_Y) (a n N : Nat) (f : Nat → Int32) (hnN : n < N) (hN : N ≤ 1000000) (hfit : ∀ i : Nat, fits .byte (.int (f i)) = true) : zz_R l Y yn_Ja_copyOf_bIb bc_Ja_copyOf_bIb 3 (some (.array .byte)) { frames := 1, cells := 1, slots := N, locals := 60 } [.ref a, .int (nI N)] [(a, .inl (Y.2.1.1, n, .inl f))] (fun r w1 => w1 = [(a, .inl (Y.2.1.1, n, .inl f)), (r, .inl (Y.2.1.1, N, .inl (va_cpy f (fun _ => 0) 0 0 n)))]) := by
  intro sz
  refine zz_of (cc := bc_Ja_copyOf_bIb) (maxL := 3) (ret := (some (.array .byte))) (by decide) (Nat.le_of_ble_eq_true rfl) ?_
  intro p e s m below meth c A ls hsz C0 hl
  subst hsz
  obtain ⟨hx, hb, hr, hml, hlocks, hin, hown, hw, hAe, hA, hK, hG, hP, hD, hS⟩ := C0
  have hown : s.vm.findClass "java/util/Arrays" = some m.cls := hown
  have hl : lv_has ls 3 [(0, .ref a), (1, .int (nI N))] := hl
  have hne2 : ¬ nI N = nI n := fun h => absurd ((nI_eq (by omega) (by omega)).mp h) (by omega)
  refine lv_iload_n hx hb dc_Ja_copyOf_bIb_0 rfl (lv_at hl 1 rfl) ?_
  refine lv_aload_n hx hb dc_Ja_copyOf_bIb_1 rfl (lv_at hl 0 rfl) ?_
  refine va_alen (D := Y.1) (v := nI n) hx hb hK hP 0 0 rfl rfl rfl dc_Ja_copyOf_bIb_2 ?_
  refine lv_icmp_ne (tgt := 14) hx hb dc_Ja_copyOf_bIb_3 (by decide) (fun _ => ?_) (fun c9 => absurd c9 hne2)
  refine lv_iload_n hx hb dc_Ja_copyOf_bIb_14 rfl (lv_at hl 1 rfl) ?_
  refine va_newa (D := Y.1) (ty := .byte) (atype := .byte) (a0 := (N, .inl (fun _ => 0))) hx hb (hw _ kw_122) rfl hK hP hD hS hA (fun _ => rfl) (nI_pos (by omega)) (nI_clamp (by omega)) (by show N * 1 ≤ 536870912; omega) (Nat.le_refl _) (by show 0 + N ≤ N; omega) dc_Ja_copyOf_bIb_15 (fun q cA H hK2 hP hD hS => ?_)
  have hcA : cA = Y.2.1.1 := Option.some.inj ((va_nm_byte (hK2.2 3 _ rfl).2).symm.trans (va_nm_byte (hK.2 0 _ rfl).2))
  subst hcA
  have hP : va_P Y.1 vwCl [(a, .inl (Y.2.1.1, n, .inl f)), (q, .inl (Y.2.1.1, N, .inl (fun _ => 0)))] H := hP
  have hD : va_D A [(a, .inl (Y.2.1.1, n, .inl f)), (q, .inl (Y.2.1.1, N, .inl (fun _ => 0)))] := hD
  refine lv_astore_n (lv' := [(2, .ref q), (0, .ref a), (1, .int (nI N))]) hx hb dc_Ja_copyOf_bIb_17 rfl hl (by decide) rfl (fun ls hl => ?_)
  refine lv_aload_n hx hb dc_Ja_copyOf_bIb_18 rfl (lv_at hl 1 rfl) ?_
  refine lv_iconst (v := 0) hx hb dc_Ja_copyOf_bIb_19 (by decide) ?_
  refine lv_aload_n hx hb dc_Ja_copyOf_bIb_20 rfl (lv_at hl 0 rfl) ?_
  refine lv_iconst (v := 0) hx hb dc_Ja_copyOf_bIb_21 (by decide) ?_
  refine lv_aload_n hx hb dc_Ja_copyOf_bIb_22 rfl (lv_at hl 1 rfl) ?_
  refine va_alen (D := Y.1) (v := nI n) hx hb hK hP 0 0 rfl rfl rfl dc_Ja_copyOf_bIb_23 ?_
  refine lv_iload_n hx hb dc_Ja_copyOf_bIb_24 rfl (lv_at hl 2 rfl) ?_
  refine va_mmin hx hb (by rw [hml]; exact hl.1.symm) hown (hw _ kw_205) (hw _ kw_206) (hw _ kw_64) (hw _ kw_207) (Nat.le_of_ble_eq_true rfl) (Nat.le_of_ble_eq_true rfl) (Nat.le_refl _) (by show 0 + N ≤ N; omega) dc_Ja_copyOf_bIb_25 ?_
  rw [zz_min (by omega) (by omega)]
  refine va_copyi (D := Y.1) (ty := .byte) hx hb (by rw [hml]; exact hl.1.symm) hown (hw _ kw_208) (hw _ kw_210) (hw _ kw_209) (hw _ kw_67) hK hP hD hS 0 1 0 0 rfl rfl rfl rfl rfl (by decide) (by decide) (nI_pos (by omega)) (by rw [nI_clamp (by omega)]; exact Nat.le_of_eq (Nat.zero_add n)) (by rw [nI_clamp (by omega)]; show 0 + n ≤ N; omega) (fun i _ => hfit _) (Nat.le_of_ble_eq_true rfl) (Nat.le_of_ble_eq_true rfl) dc_Ja_copyOf_bIb_28 (fun H locs hP hD hS => ?_)
  rw [nI_clamp (by omega)] at hP hD
  have hP : va_P Y.1 vwCl [(a, .inl (Y.2.1.1, n, .inl f)), (q, .inl (Y.2.1.1, N, .inl (va_cpy f (fun _ => 0) 0 0 n)))] H := hP
  have hD : va_D A [(a, .inl (Y.2.1.1, n, .inl f)), (q, .inl (Y.2.1.1, N, .inl (va_cpy f (fun _ => 0) 0 0 n)))] := hD
  refine lv_aload_n hx hb dc_Ja_copyOf_bIb_31 rfl (lv_at hl 0 rfl) ?_
  exact zz_aret (w1 := [(a, .inl (Y.2.1.1, n, .inl f)), (q, .inl (Y.2.1.1, N, .inl (va_cpy f (fun _ => 0) 0 0 n)))]) hx hb hr (Or.inr ⟨_, rfl⟩) hlocks hAe hP hD hS [0, 1] rfl (by decide) rfl (Nat.le_refl _) (by show 0 + N ≤ N; omega) dc_Ja_copyOf_bIb_32

set_option maxHeartbeats 4000000 in
set_option maxRecDepth 100000 in
theorem ct_Ja_copyOf_iIi (l : Launch) (Y : zz_Y) (a n N : Nat) (f : Nat → Int32) (hnN : n < N) (hN : N ≤ 1000000) : zz_R l Y yn_Ja_copyOf_iIi bc_Ja_copyOf_iIi 3 (some (.array .int)) { frames := 1, cells := 1, slots := N, locals := 60 } [.ref a, .int (nI N)] [(a, .inl (Y.2.1.2.1, n, .inl f))] (fun r w1 => w1 = [(a, .inl (Y.2.1.2.1, n, .inl f)), (r, .inl (Y.2.1.2.1, N, .inl (va_cpy f (fun _ => 0) 0 0 n)))]) := by
  intro sz
  refine zz_of (cc := bc_Ja_copyOf_iIi) (maxL := 3) (ret := (some (.array .int))) (by decide) (Nat.le_of_ble_eq_true rfl) ?_
  intro p e s m below meth c A ls hsz C0 hl
  subst hsz
  obtain ⟨hx, hb, hr, hml, hlocks, hin, hown, hw, hAe, hA, hK, hG, hP, hD, hS⟩ := C0
  have hown : s.vm.findClass "java/util/Arrays" = some m.cls := hown
  have hl : lv_has ls 3 [(0, .ref a), (1, .int (nI N))] := hl
  have hne2 : ¬ nI N = nI n := fun h => absurd ((nI_eq (by omega) (by omega)).mp h) (by omega)
  refine lv_iload_n hx hb dc_Ja_copyOf_iIi_0 rfl (lv_at hl 1 rfl) ?_
  refine lv_aload_n hx hb dc_Ja_copyOf_iIi_1 rfl (lv_at hl 0 rfl) ?_
  refine va_alen (D := Y.1) (v := nI n) hx hb hK hP 0 1 rfl rfl rfl dc_Ja_copyOf_iIi_2 ?_
  refine lv_icmp_ne (tgt := 14) hx hb dc_Ja_copyOf_iIi_3 (by decide) (fun _ => ?_) (fun c9 => absurd c9 hne2)
  refine lv_iload_n hx hb dc_Ja_copyOf_iIi_14 rfl (lv_at hl 1 rfl) ?_
  refine va_newa (D := Y.1) (ty := .int) (atype := .int) (a0 := (N, .inl (fun _ => 0))) hx hb (hw _ kw_148) rfl hK hP hD hS hA (fun _ => rfl) (nI_pos (by omega)) (nI_clamp (by omega)) (by show N * 4 ≤ 536870912; omega) (Nat.le_refl _) (by show 0 + N ≤ N; omega) dc_Ja_copyOf_iIi_15 (fun q cA H hK2 hP hD hS => ?_)
  have hcA : cA = Y.2.1.2.1 := Option.some.inj ((va_nm_int (hK2.2 3 _ rfl).2).symm.trans (va_nm_int (hK.2 1 _ rfl).2))
  subst hcA
  have hP : va_P Y.1 vwCl [(a, .inl (Y.2.1.2.1, n, .inl f)), (q, .inl (Y.2.1.2.1, N, .inl (fun _ => 0)))] H := hP
  have hD : va_D A [(a, .inl (Y.2.1.2.1, n, .inl f)), (q, .inl (Y.2.1.2.1, N, .inl (fun _ => 0)))] := hD
  refine lv_astore_n (lv' := [(2, .ref q), (0, .ref a), (1, .int (nI N))]) hx hb dc_Ja_copyOf_iIi_17 rfl hl (by decide) rfl (fun ls hl => ?_)
  refine lv_aload_n hx hb dc_Ja_copyOf_iIi_18 rfl (lv_at hl 1 rfl) ?_
  refine lv_iconst (v := 0) hx hb dc_Ja_copyOf_iIi_19 (by decide) ?_
  refine lv_aload_n hx hb dc_Ja_copyOf_iIi_20 rfl (lv_at hl 0 rfl) ?_
  refine lv_iconst (v := 0) hx hb dc_Ja_copyOf_iIi_21 (by decide) ?_
  refine lv_aload_n hx hb dc_Ja_copyOf_iIi_22 rfl (lv_at hl 1 rfl) ?_
  refine va_alen (D := Y.1) (v := nI n) hx hb hK hP 0 1 rfl rfl rfl dc_Ja_copyOf_iIi_23 ?_
  refine lv_iload_n hx hb dc_Ja_copyOf_iIi_24 rfl (lv_at hl 2 rfl) ?_
  refine va_mmin hx hb (by rw [hml]; exact hl.1.symm) hown (hw _ kw_205) (hw _ kw_206) (hw _ kw_64) (hw _ kw_207) (Nat.le_of_ble_eq_true rfl) (Nat.le_of_ble_eq_true rfl) (Nat.le_refl _) (by show 0 + N ≤ N; omega) dc_Ja_copyOf_iIi_25 ?_
  rw [zz_min (by omega) (by omega)]
  refine va_copyi (D := Y.1) (ty := .int) hx hb (by rw [hml]; exact hl.1.symm) hown (hw _ kw_208) (hw _ kw_210) (hw _ kw_209) (hw _ kw_67) hK hP hD hS 0 1 1 1 rfl rfl rfl rfl rfl (by decide) (by decide) (nI_pos (by omega)) (by rw [nI_clamp (by omega)]; exact Nat.le_of_eq (Nat.zero_add n)) (by rw [nI_clamp (by omega)]; show 0 + n ≤ N; omega) (fun i _ => rfl) (Nat.le_of_ble_eq_true rfl) (Nat.le_of_ble_eq_true rfl) dc_Ja_copyOf_iIi_28 (fun H locs hP hD hS => ?_)
  rw [nI_clamp (by omega)] at hP hD
  have hP : va_P Y.1 vwCl [(a, .inl (Y.2.1.2.1, n, .inl f)), (q, .inl (Y.2.1.2.1, N, .inl (va_cpy f (fun _ => 0) 0 0 n)))] H := hP
  have hD : va_D A [(a, .inl (Y.2.1.2.1, n, .inl f)), (q, .inl (Y.2.1.2.1, N, .inl (va_cpy f (fun _ => 0) 0 0 n)))] := hD
  refine lv_aload_n hx hb dc_Ja_copyOf_iIi_31 rfl (lv_at hl 0 rfl) ?_
  exact zz_aret (w1 := [(a, .inl (Y.2.1.2.1, n, .inl f)), (q, .inl (Y.2.1.2.1, N, .inl (va_cpy f (fun _ => 0) 0 0 n)))]) hx hb hr (Or.inr ⟨_, rfl⟩) hlocks hAe hP hD hS [0, 1] rfl (by decide) rfl (Nat.le_refl _) (by show 0 + N ≤ N; omega) dc_Ja_copyOf_iIi_32

set_option maxHeartbeats 4000000 in
set_option maxRecDepth 100000 in
theorem ct_Ja_copyOf_jIj (l : Launch) (Y : zz_Y) (a n N : Nat) (f : Nat → Int64) (hnN : n < N) (hN : N ≤ 1000000) : zz_R l Y yn_Ja_copyOf_jIj bc_Ja_copyOf_jIj 3 (some (.array .long)) { frames := 1, cells := 1, slots := N, locals := 60 } [.ref a, .int (nI N)] [(a, .inl (Y.2.1.2.2, n, .inr (.inl f)))] (fun r w1 => w1 = [(a, .inl (Y.2.1.2.2, n, .inr (.inl f))), (r, .inl (Y.2.1.2.2, N, .inr (.inl (va_cpy f (fun _ => 0) 0 0 n))))]) := by
  intro sz
  refine zz_of (cc := bc_Ja_copyOf_jIj) (maxL := 3) (ret := (some (.array .long))) (by decide) (Nat.le_of_ble_eq_true rfl) ?_
  intro p e s m below meth c A ls hsz C0 hl
  subst hsz
  obtain ⟨hx, hb, hr, hml, hlocks, hin, hown, hw, hAe, hA, hK, hG, hP, hD, hS⟩ := C0
  have hown : s.vm.findClass "java/util/Arrays" = some m.cls := hown
  have hl : lv_has ls 3 [(0, .ref a), (1, .int (nI N))] := hl
  have hne2 : ¬ nI N = nI n := fun h => absurd ((nI_eq (by omega) (by omega)).mp h) (by omega)
  refine lv_iload_n hx hb dc_Ja_copyOf_jIj_0 rfl (lv_at hl 1 rfl) ?_
  refine lv_aload_n hx hb dc_Ja_copyOf_jIj_1 rfl (lv_at hl 0 rfl) ?_
  refine va_alen (D := Y.1) (v := nI n) hx hb hK hP 0 2 rfl rfl rfl dc_Ja_copyOf_jIj_2 ?_
  refine lv_icmp_ne (tgt := 14) hx hb dc_Ja_copyOf_jIj_3 (by decide) (fun _ => ?_) (fun c9 => absurd c9 hne2)
  refine lv_iload_n hx hb dc_Ja_copyOf_jIj_14 rfl (lv_at hl 1 rfl) ?_
  refine va_newa (D := Y.1) (ty := .long) (atype := .long) (a0 := (N, .inr (.inl (fun _ => 0)))) hx hb (hw _ kw_149) rfl hK hP hD hS hA (fun _ => rfl) (nI_pos (by omega)) (nI_clamp (by omega)) (by show N * 8 ≤ 536870912; omega) (Nat.le_refl _) (by show 0 + N ≤ N; omega) dc_Ja_copyOf_jIj_15 (fun q cA H hK2 hP hD hS => ?_)
  have hcA : cA = Y.2.1.2.2 := Option.some.inj ((va_nm_long (hK2.2 3 _ rfl).2).symm.trans (va_nm_long (hK.2 2 _ rfl).2))
  subst hcA
  have hP : va_P Y.1 vwCl [(a, .inl (Y.2.1.2.2, n, .inr (.inl f))), (q, .inl (Y.2.1.2.2, N, .inr (.inl (fun _ => 0))))] H := hP
  have hD : va_D A [(a, .inl (Y.2.1.2.2, n, .inr (.inl f))), (q, .inl (Y.2.1.2.2, N, .inr (.inl (fun _ => 0))))] := hD
  refine lv_astore_n (lv' := [(2, .ref q), (0, .ref a), (1, .int (nI N))]) hx hb dc_Ja_copyOf_jIj_17 rfl hl (by decide) rfl (fun ls hl => ?_)
  refine lv_aload_n hx hb dc_Ja_copyOf_jIj_18 rfl (lv_at hl 1 rfl) ?_
  refine lv_iconst (v := 0) hx hb dc_Ja_copyOf_jIj_19 (by decide) ?_
  refine lv_aload_n hx hb dc_Ja_copyOf_jIj_20 rfl (lv_at hl 0 rfl) ?_
  refine lv_iconst (v := 0) hx hb dc_Ja_copyOf_jIj_21 (by decide) ?_
  refine lv_aload_n hx hb dc_Ja_copyOf_jIj_22 rfl (lv_at hl 1 rfl) ?_
  refine va_alen (D := Y.1) (v := nI n) hx hb hK hP 0 2 rfl rfl rfl dc_Ja_copyOf_jIj_23 ?_
  refine lv_iload_n hx hb dc_Ja_copyOf_jIj_24 rfl (lv_at hl 2 rfl) ?_
  refine va_mmin hx hb (by rw [hml]; exact hl.1.symm) hown (hw _ kw_205) (hw _ kw_206) (hw _ kw_64) (hw _ kw_207) (Nat.le_of_ble_eq_true rfl) (Nat.le_of_ble_eq_true rfl) (Nat.le_refl _) (by show 0 + N ≤ N; omega) dc_Ja_copyOf_jIj_25 ?_
  rw [zz_min (by omega) (by omega)]
  refine va_copyl (D := Y.1) hx hb (by rw [hml]; exact hl.1.symm) hown (hw _ kw_208) (hw _ kw_210) (hw _ kw_209) (hw _ kw_67) hK hP hD hS 0 1 2 2 rfl rfl rfl rfl rfl (by decide) (by decide) (nI_pos (by omega)) (by rw [nI_clamp (by omega)]; exact Nat.le_of_eq (Nat.zero_add n)) (by rw [nI_clamp (by omega)]; show 0 + n ≤ N; omega) (fun i _ => rfl) (Nat.le_of_ble_eq_true rfl) (Nat.le_of_ble_eq_true rfl) dc_Ja_copyOf_jIj_28 (fun H locs hP hD hS => ?_)
  rw [nI_clamp (by omega)] at hP hD
  have hP : va_P Y.1 vwCl [(a, .inl (Y.2.1.2.2, n, .inr (.inl f))), (q, .inl (Y.2.1.2.2, N, .inr (.inl (va_cpy f (fun _ => 0) 0 0 n))))] H := hP
  have hD : va_D A [(a, .inl (Y.2.1.2.2, n, .inr (.inl f))), (q, .inl (Y.2.1.2.2, N, .inr (.inl (va_cpy f (fun _ => 0) 0 0 n))))] := hD
  refine lv_aload_n hx hb dc_Ja_copyOf_jIj_31 rfl (lv_at hl 0 rfl) ?_
  exact zz_aret (w1 := [(a, .inl (Y.2.1.2.2, n, .inr (.inl f))), (q, .inl (Y.2.1.2.2, N, .inr (.inl (va_cpy f (fun _ => 0) 0 0 n))))]) hx hb hr (Or.inr ⟨_, rfl⟩) hlocks hAe hP hD hS [0, 1] rfl (by decide) rfl (Nat.le_refl _) (by show 0 + N ≤ N; omega) dc_Ja_copyOf_jIj_32
