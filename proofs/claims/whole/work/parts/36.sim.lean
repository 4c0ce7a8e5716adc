theorem zq_tkf {tx : Nat → Nat} {size pp : Nat} {plc : Int32} {next : Nat} {token : Int32} {place : Nat} {name : Int64} {word value : Int32} {f1 plc1 : Int32} {pp1 : Nat} {tok1 : Int32} {att1 : Nat} {spl1 : Int64} {val1 : Int32}
    (h : zq_tk tx size pp plc (token, next, place, name, word, value) (f1, plc1, pp1, tok1, att1, spl1, val1)) (h1 : ¬ token = 1) :
    f1 = 0 ∧ plc1 = plc ∧ att1 = place ∧ pp1 ≤ size ∧ (token = 0 ↔ tok1 = 4) ∧ (token = 3 ↔ tok1 = 1) ∧ (token = 2 ↔ tok1 = 0) ∧ zm_isOwn tx pp1 tok1 att1 = zp_isFreeName token word ∧ (token = 4 → spl1 = name) ∧ (token = 0 → place = size) ∧ (¬ token = 0 → pp1 = next ∧ pp < next) ∧
    zm_type tx pp1 tok1 att1 = zp_typeHere token word ∧ zm_is tx pp1 tok1 att1 11 = decide (zp_wordHere token word = 0) ∧ zm_is tx pp1 tok1 att1 12 = decide (zp_wordHere token word = 1) := by
  obtain ⟨t1, t2, t3, t4, t5⟩ := h
  simp only at t1 t2 t3 t4 t5
  subst t2
  rcases t5 with ⟨e1, e2, e3⟩ | ⟨e1, e2, ⟨e3, e4, e5, e6⟩ | ⟨e3, e4, e5⟩⟩
  · exact absurd e1 h1
  · subst e3; subst e4
    have ha := zq_ask0 (tx := tx) (att := att1) (pp := pp1) (tok := 4) (token := 0) (word := word) (by decide) (by decide)
    exact ⟨e1, e2, rfl, t3, by decide, by decide, by decide, ha.2.2.2.1, fun g => absurd g (by decide), fun _ => e5, fun g => absurd rfl g, ha.1, ha.2.2.2.2.2.1, ha.2.2.2.2.2.2⟩
  · have hp : pp1 = next ∧ pp < next := ⟨e3, by omega⟩
    rcases e5 with ⟨g1, g2⟩ | ⟨g1, g2⟩ | ⟨g1, g2, g3, g4, g5⟩ | ⟨g1, g2, g3⟩
    · subst g1; subst g2
      have ha := zq_ask0 (tx := tx) (att := att1) (pp := pp1) (tok := 0) (token := 2) (word := word) (by decide) (by decide)
      exact ⟨e1, e2, rfl, t3, by decide, by decide, by decide, ha.2.2.2.1, fun g => absurd g (by decide), fun g => absurd g (by decide), fun g => hp, ha.1, ha.2.2.2.2.2.1, ha.2.2.2.2.2.2⟩
    · subst g1; subst g2
      have ha := zq_ask0 (tx := tx) (att := att1) (pp := pp1) (tok := 1) (token := 3) (word := word) (by decide) (by decide)
      exact ⟨e1, e2, rfl, t3, by decide, by decide, by decide, ha.2.2.2.1, fun g => absurd g (by decide), fun g => absurd g (by decide), fun g => hp, ha.1, ha.2.2.2.2.2.1, ha.2.2.2.2.2.2⟩
    · subst g1; subst g2; subst g4; subst e3
      have ha := zq_ask g5
      exact ⟨e1, e2, rfl, t3, by decide, by decide, by decide, ha.2.2.2.1, fun _ => g3, fun g => absurd g (by decide), fun g => hp, ha.1, ha.2.2.2.2.2.1, ha.2.2.2.2.2.2⟩
    · subst g1; subst g2
      have ha := zq_ask0 (tx := tx) (att := att1) (pp := pp1) (tok := 3) (token := 5) (word := word) (by decide) (by decide)
      exact ⟨e1, e2, rfl, t3, by decide, by decide, by decide, ha.2.2.2.1, fun g => absurd g (by decide), fun g => absurd g (by decide), fun g => hp, ha.1, ha.2.2.2.2.2.1, ha.2.2.2.2.2.2⟩
theorem zq_tkb {tx : Nat → Nat} {size pp : Nat} {plc : Int32} {next : Nat} {token : Int32} {place : Nat} {name : Int64} {word value : Int32} {f1 plc1 : Int32} {pp1 : Nat} {tok1 : Int32} {att1 : Nat} {spl1 : Int64} {val1 : Int32}
    (h : zq_tk tx size pp plc (token, next, place, name, word, value) (f1, plc1, pp1, tok1, att1, spl1, val1)) (h1 : token = 1) :
    f1 = 1 ∧ plc1 = nI place ∧ pp1 ≤ size := by
  obtain ⟨t1, t2, t3, t4, t5⟩ := h
  simp only at t1 t2 t3 t4 t5
  rcases t5 with ⟨e1, e2, e3⟩ | ⟨e1, e2, ⟨e3, e4, e5, e6⟩ | ⟨e3, e4, e5⟩⟩
  · exact ⟨e2, e3, t3⟩
  · rw [e3] at h1; exact absurd h1 (by decide)
  · rcases e5 with ⟨g, _⟩ | ⟨g, _⟩ | ⟨g, _⟩ | ⟨g, _⟩ <;> rw [g] at h1 <;> exact absurd h1 (by decide)
theorem zq_free4 {token word : Int32} (h : zp_isFreeName token word = true) : token = 4 := by
  rw [zp_isFreeName] at h
  by_cases g : token = 4
  · exact g
  · rw [if_neg g] at h; exact absurd h (by decide)
section
variable {place nr n u : Nat} {nnum : Nat → Nat → Int32} {nnam : Nat → Nat → Int64} {token word : Int32} {name : Int64}
theorem zq_tvX (hr : nr < 90000) (hn : n < nr) (h7 : nnum n 7 = nI u) (hu : u < 100) : zp_takesVariable token place name word nr nnum nnam (nI n) 0 = if u < 24 ∧ zp_isFreeName token word = true then (true, zr_up (zr_up nnum n 5 (nI place)) n 9 (nnum n 9 + 1), zr_up nnam n 0 name) else (false, nnum, nnam) := by
  have n7 : zr_num 10 nr nnum (nI n) 7 = nI u := (zq_num_ (c := 7) hn (by omega) (by omega) (by omega) nnum).trans h7
  have e0 : nI u + 0 = nI u := Int32.add_zero _
  have hk := zq_tkn (place := place) (name := name) (word := word) (token := token) (nnum := nnum) (nnam := nnam) hr hn (i := 0) (by omega)
  change zp_takesName token place name word nr nnum nnam (nI n) 0 = if zp_isFreeName token word = true then (true, zr_up (zr_up nnum n 5 (nI place)) n 9 (nnum n 9 + 1), zr_up nnam n 0 name) else (false, nnum, nnam) at hk
  rw [zp_takesVariable, if_neg (by decide), n7, e0, hk]
  by_cases hu2 : u < 24
  · rw [if_neg (show ¬ (24 : Int32) ≤ nI u from fun g => by have := (zq_le (m := 24) (by omega) (by omega)).1 g; omega)]
    by_cases hf : zp_isFreeName token word = true
    · rw [if_pos hf, if_pos rfl, if_pos ⟨hu2, hf⟩]
    · rw [if_neg hf, if_neg Bool.false_ne_true, if_neg (fun g => hf g.2)]
  · rw [if_pos (show (24 : Int32) ≤ nI u from (zq_le (m := 24) (by omega) (by omega)).2 (by omega)), if_neg (fun g => hu2 g.1)]
theorem zq_tvY (hr : nr < 90000) (hn : n < nr) (h7 : nnum n 7 = nI u) (hu : u < 100) : zp_takesVariable token place name word nr nnum nnam (nI n) 1 = if (¬ lg_cmp name (nnam n 0) = 0 ∧ u + 1 < 24) ∧ zp_isFreeName token word = true then (true, zr_up (zr_up nnum n 6 (nI place)) n 9 (nnum n 9 + 1), zr_up nnam n 1 name) else (false, nnum, nnam) := by
  have n7 : zr_num 10 nr nnum (nI n) 7 = nI u := (zq_num_ (c := 7) hn (by omega) (by omega) (by omega) nnum).trans h7
  have m0 : zr_nam 2 nr nnam (nI n) 0 = nnam n 0 := zq_nam_ (c := 0) hn (by omega) (by omega) (by omega) nnam
  have e0 : nI u + 1 = nI (u + 1) := zq_add u 1
  have hk := zq_tkn (place := place) (name := name) (word := word) (token := token) (nnum := nnum) (nnam := nnam) hr hn (i := 1) (by omega)
  change zp_takesName token place name word nr nnum nnam (nI n) 1 = if zp_isFreeName token word = true then (true, zr_up (zr_up nnum n 6 (nI place)) n 9 (nnum n 9 + 1), zr_up nnam n 1 name) else (false, nnum, nnam) at hk
  rw [zp_takesVariable, if_pos rfl, n7, m0, e0, hk]
  by_cases hl : lg_cmp name (nnam n 0) = 0
  · rw [if_pos hl, if_neg (show ¬ ((¬ lg_cmp name (nnam n 0) = 0 ∧ u + 1 < 24) ∧ zp_isFreeName token word = true) from fun g => g.1.1 hl), ite_self]
  · rw [if_neg hl]
    by_cases hu2 : u + 1 < 24
    · rw [if_neg (show ¬ (24 : Int32) ≤ nI (u + 1) from fun g => by have := (zq_le (m := 24) (by omega) (by omega)).1 g; omega)]
      by_cases hf : zp_isFreeName token word = true
      · rw [if_pos hf, if_pos rfl, if_pos ⟨⟨hl, hu2⟩, hf⟩]
      · rw [if_neg hf, if_neg Bool.false_ne_true, if_neg (fun g => hf g.2)]
    · rw [if_pos (show (24 : Int32) ≤ nI (u + 1) from (zq_le (m := 24) (by omega) (by omega)).2 (by omega)), if_neg (fun g => hu2 g.1.2)]
end
theorem zq_N_9 {nr n : Nat} {x : Int32} {nnum : Nat → Nat → Int32} {nnam : Nat → Nat → Int64} {aKnd aPrn aPlc aNpl aSpl aVar aVal : Nat → Int32} {aNam aSec : Nat → Int64} (h : zq_N nr nnum nnam aKnd aPrn aPlc aNpl aSpl aVar aVal aNam aSec) : zq_N nr (zr_up nnum n 9 x) nnam aKnd aPrn aPlc aNpl aSpl aVar aVal aNam aSec := by
  intro k hk
  have := h k hk
  simp only [zq_up_nc (show ¬ (0 : Nat) = 9 by decide), zq_up_nc (show ¬ (3 : Nat) = 9 by decide), zq_up_nc (show ¬ (4 : Nat) = 9 by decide), zq_up_nc (show ¬ (5 : Nat) = 9 by decide), zq_up_nc (show ¬ (6 : Nat) = 9 by decide), zq_up_nc (show ¬ (7 : Nat) = 9 by decide), zq_up_nc (show ¬ (8 : Nat) = 9 by decide)]
  exact this
theorem zq_N_x {nr n : Nat} {x : Int32} {nm : Int64} {nnum : Nat → Nat → Int32} {nnam : Nat → Nat → Int64} {aKnd aPrn aPlc aNpl aSpl aVar aVal : Nat → Int32} {aNam aSec : Nat → Int64} (h : zq_N nr nnum nnam aKnd aPrn aPlc aNpl aSpl aVar aVal aNam aSec) : zq_N nr (zr_up nnum n 5 x) (zr_up nnam n 0 nm) aKnd aPrn aPlc (upd aNpl n x) aSpl aVar aVal (vp_updL aNam n nm) aSec := by
  intro k hk
  obtain ⟨d0, d3, d4, d5, d6, d7, d8, e0, e1⟩ := h k hk
  simp only [zq_up_nc (show ¬ (0 : Nat) = 5 by decide), zq_up_nc (show ¬ (3 : Nat) = 5 by decide), zq_up_nc (show ¬ (4 : Nat) = 5 by decide), zq_up_nc (show ¬ (6 : Nat) = 5 by decide), zq_up_nc (show ¬ (7 : Nat) = 5 by decide), zq_up_nc (show ¬ (8 : Nat) = 5 by decide), zq_up_nc (show ¬ (1 : Nat) = 0 by decide)]
  by_cases he : k = n
  · subst he
    rw [zq_up_eq, zq_up_eq, zq_u_eq, zq_ul_eq]
    exact ⟨d0, d3, d4, rfl, d6, d7, d8, rfl, e1⟩
  · rw [zq_up_ne he, zq_up_ne he, zq_u_ne he, zq_ul_ne he]
    exact ⟨d0, d3, d4, d5, d6, d7, d8, e0, e1⟩
theorem zq_N_y {nr n : Nat} {x : Int32} {nm : Int64} {nnum : Nat → Nat → Int32} {nnam : Nat → Nat → Int64} {aKnd aPrn aPlc aNpl aSpl aVar aVal : Nat → Int32} {aNam aSec : Nat → Int64} (h : zq_N nr nnum nnam aKnd aPrn aPlc aNpl aSpl aVar aVal aNam aSec) : zq_N nr (zr_up nnum n 6 x) (zr_up nnam n 1 nm) aKnd aPrn aPlc aNpl (upd aSpl n x) aVar aVal aNam (vp_updL aSec n nm) := by
  intro k hk
  obtain ⟨d0, d3, d4, d5, d6, d7, d8, e0, e1⟩ := h k hk
  simp only [zq_up_nc (show ¬ (0 : Nat) = 6 by decide), zq_up_nc (show ¬ (3 : Nat) = 6 by decide), zq_up_nc (show ¬ (4 : Nat) = 6 by decide), zq_up_nc (show ¬ (5 : Nat) = 6 by decide), zq_up_nc (show ¬ (7 : Nat) = 6 by decide), zq_up_nc (show ¬ (8 : Nat) = 6 by decide), zq_up_nc (show ¬ (0 : Nat) = 1 by decide)]
  by_cases he : k = n
  · subst he
    rw [zq_up_eq, zq_up_eq, zq_u_eq, zq_ul_eq]
    exact ⟨d0, d3, d4, d5, rfl, d7, d8, e0, rfl⟩
  · rw [zq_up_ne he, zq_up_ne he, zq_u_ne he, zq_ul_ne he]
    exact ⟨d0, d3, d4, d5, d6, d7, d8, e0, e1⟩
theorem zq_mnne : ∀ k : Nat, k < 24 → ∀ s : Nat, s < 8 → zq_ok k s → ((zq_mn k s).headD 0 < 10 ∧ ¬ (zq_mn k s).headD 0 = 8 ∧ ¬ zq_mn k s = []) := by decide +kernel
section
variable {tx : Nat → Nat} {size q : Nat}
variable {n k s u : Nat} {G : List (Nat × Nat × Nat)} {o' : Option Nat} {next : Nat} {token : Int32} {place : Nat} {name : Int64} {word value : Int32}
variable {dr dc : Nat} {dnum : Nat → Nat → Int32} {dnam : Nat → Nat → Int64} {latest plc : Int32} {pp nr nc dues : Nat} {thn : Int32} {nnum : Nat → Nat → Int32} {nnam : Nat → Nat → Int64} {wa : Int32} {tok : Int32} {att : Nat} {spl : Int64} {val : Int32} {aKnd aPrn aPlc aNpl aSpl aVar aVal : Nat → Int32} {aNam aSec : Nat → Int64} {aDue aDof : Nat → Int32}
theorem zq_step2 (hb : ∀ k, k < size → tx k < 256) (hs : size ≤ 8192) (h : zq_R2 tx size q n k s u G o' next token place name word value nr nnum nnam pp dues thn aKnd aPrn aPlc aNpl aSpl aVar aVal aNam aSec aDue aDof) :
    zq_out tx size q dr dc dnum dnam latest plc pp (next, token, place, name, word, value, dr, dc, dnum, dnam, nr, nc, nnum, nnam, 0, 12, latest, nI n, wa) (zm_e1 tx size 0 plc pp tok att spl val nr dues thn aKnd aPrn aPlc aNpl aSpl aVar aVal aNam aSec aDue aDof) := by
  obtain ⟨⟨nm, wd, vl, ht⟩, r2, r3, r4, r5, f2, f3, f4, f5, f6, f7, f8, f9, f10, f11, r8, r9, r10⟩ := h
  have h8 := zq_ok8 f2
  have hn := (r10.1 n List.mem_cons_self).1
  have hT := zq_next hb r2 plc tok val wd vl spl nm
  rw [← ht] at hT
  have hpl : place ≤ size := hT.2.2.2.1
  obtain ⟨m1, m2, m3⟩ := zq_mnne k h8.2 s h8.1 f2
  have tpp := zq_tpp k h8.2 s h8.1 f2
  generalize hu : zm_next tx size 0 plc pp tok spl val = uu at hT
  obtain ⟨f1, plc1, pp1, tok1, att1, spl1, val1⟩ := uu
  have hkd : aKnd n = nI k := by rw [← (r9 n hn).1]; exact f3
  have hrow : ∀ (x : Nat) (y : Int32) (a c : Nat), ¬ a = n → zr_up (zr_up nnum n x y) n 9 (nnum n 9 + 1) a c = nnum a c := fun x y a c g => by rw [zq_up_ne g, zq_up_ne g]
  have hst9 : nnum n 9 + 1 = nI (s + 1) := by rw [f4]; exact zq_add s 1
  generalize hw : zq_mn k s = L at *
  cases L with
  | nil => exact absurd rfl m3
  | cons w L =>
  simp only [List.headD_cons] at m1 m2
  obtain ⟨d, q1, q2, q3, q4⟩ := r8
  subst q1
  rw [zq_e1n m1 m2 q2, hu]
  change zq_stk aDue aDof (L.map (fun w => (w, nI n)) ++ zq_dl G) d at q4
  by_cases hbad : token = 1
  · obtain ⟨b1, b2, b3⟩ := zq_tkb hT hbad
    rw [zq_sB b1]
    subst hbad
    exact Or.inl ⟨1, place, by decide, ⟨b1, b2, b3, by show d ≤ 32991; omega⟩, zq_it1⟩
  · obtain ⟨b1, b2, b3, b4, b5, b6, b7, b8, b9, c1, c2, c3, c4, c5⟩ := zq_tkf hT hbad
    subst b1; subst b2; subst b3
    have hd3 : d ≤ 32991 := by omega
    have hend0 : token = 0 → zq_end tx size (next, token, att1, name, word, value, dr, dc, dnum, dnam, nr, nc, nnum, nnam, 0, 12, latest, nI n, wa) 3 att1 := fun g => by
      subst g; exact zq_it0 (by decide)
    have hTS := zq_ts (token := token) (place := att1) (name := name) (word := word) (value := value) (dr := dr) (dnum := dnum) (nr := nr) (nc := nc) (nnum := nnum) (nnam := nnam) (stage := 12) (latest := latest) (n := n) (by omega) hn f3 f4 f2
    have hno : ∀ {nr' nc' : Nat} {nnum' : Nat → Nat → Int32} {nnam' : Nat → Nat → Int64} {stage' op' wa' : Int32}, ¬ token = 0 → zp_takesStep token att1 name word value dr dnum nr nc nnum nnam 12 latest (nI n) = (false, nr', nc', nnum', nnam', stage', op', wa') → zq_end tx size (next, token, att1, name, word, value, dr, dc, dnum, dnam, nr, nc, nnum, nnam, 0, 12, latest, nI n, wa) 2 att1 := by
      intro nr' nc' nnum' nnam' stage' op' wa' g0 g
      have := zq_go.it (tx := tx) (len := size) (next := next) (place := att1) (name := name) (word := word) (value := value) (dr := dr) (dc := dc) (dnum := dnum) (dnam := dnam) (nr := nr) (nc := nc) (nnum := nnum) (nnam := nnam) (stage := 12) (latest := latest) (op := nI n) (wa := wa) g0
      rw [zq_it12 hbad g, if_neg Bool.false_ne_true] at this
      exact zq_end2 this
    have hyes : ∀ {nr' nc' : Nat} {nnum' : Nat → Nat → Int32} {nnam' : Nat → Nat → Int64} {stage' op' wa' : Int32}, ¬ token = 0 → zp_takesStep token att1 name word value dr dnum nr nc nnum nnam 12 latest (nI n) = (true, nr', nc', nnum', nnam', stage', op', wa') → zq_go tx size (next, token, att1, name, word, value, dr, dc, dnum, dnam, nr, nc, nnum, nnam, 0, 12, latest, nI n, wa) ((zt_tok tx size next name word value).2.1, (zt_tok tx size next name word value).1, (zt_tok tx size next name word value).2.2.1, (zt_tok tx size next name word value).2.2.2.1, (zt_tok tx size next name word value).2.2.2.2.1, (zt_tok tx size next name word value).2.2.2.2.2, dr, dc, dnum, dnam, nr', nc', nnum', nnam', 0, stage', latest, op', wa') := by
      intro nr' nc' nnum' nnam' stage' op' wa' g0 g
      have := zq_go.it (tx := tx) (len := size) (next := next) (place := att1) (name := name) (word := word) (value := value) (dr := dr) (dc := dc) (dnum := dnum) (dnam := dnam) (nr := nr) (nc := nc) (nnum := nnum) (nnam := nnam) (stage := 12) (latest := latest) (op := nI n) (wa := wa) g0
      rw [zq_it12 hbad g, if_pos rfl] at this
      exact this
    have hfG : ∀ (P : Nat → Nat → Int32), (∀ a c, ¬ a = n → P a c = nnum a c) → zq_fr P q o' u G := by
      intro P hP
      refine zq_fr_c G o' u ?_ f11
      intro f hf
      have hne : ¬ f.1 = n := by have := f6 f hf; omega
      exact ⟨hP _ _ hne, hP _ _ hne, hP _ _ hne, hP _ _ hne, hP _ _ hne⟩
    have n7 : zr_num 10 nr nnum (nI n) 7 = nI u := (zq_num_ (c := 7) hn (by omega) (by omega) (by omega) nnum).trans f8
    have n6 : zr_num 10 nr nnum (nI n) 6 = nnum n 6 := zq_num_ (c := 6) hn (by omega) (by omega) (by omega) nnum
    have hne1 : ¬ nI n = -1 := zq_n1 (by omega)
    have hPn : ∀ ch, ∀ a c, ¬ a = n → zq_P nnum ch (some n) a c = nnum a c := fun ch a c g => zq_P_n (fun e => g (Option.some.inj e).symm)
    have hP9 : ∀ ch, ¬ ch = 42 → zq_P nnum ch (some n) n 9 = nI (s + 1) := by
      intro ch hch
      show zq_par nnum ch n n 9 = _
      rw [zq_par, if_neg hch, zq_up_eq, hst9]
    have hP9s : zq_P nnum 42 (some n) n 9 = nI s := by
      show zq_par nnum 42 n n 9 = _
      rw [zq_par, if_pos rfl, zq_up_nc (by decide), f4]
    have hbeg : ∀ (st : Bool), (st = true → zq_ch k s = 69 ∨ zq_ch k s = 101) → (¬ st = true → zq_ch k s = 67 ∨ zq_ch k s = 99) → zq_out tx size q dr dc dnum dnam latest plc1 pp (next, token, att1, name, word, value, dr, dc, dnum, dnam, nr, nc, nnum, nnam, 0, 12, latest, nI n, wa) (zm_step_1 tx size nr (d + 1) thn aKnd aPrn aPlc aNpl aSpl aVar aVal aNam aSec aDue aDof (0, plc1, pp1, tok1, att1, spl1, val1)) := by
      intro st hst1 hst2
      have tt : zq_mn k s = (if st = true then 1 else 2) :: zq_rem k (s + 1) ∧ zq_ok k (s + 1) ∧ zq_pre k (s + 1) = zq_post k s ∧ zq_post k s ≤ zq_mx k s ∧ zq_mx k (s + 1) = zq_mx k s := by
        cases st
        · exact zq_tC k h8.2 s h8.1 f2 (hst2 Bool.false_ne_true)
        · exact zq_tE k h8.2 s h8.1 f2 (hst1 rfl)
      have hc42 : ¬ zq_ch k s = 42 := by
        intro g
        cases st
        · rcases hst2 Bool.false_ne_true with e | e <;> rw [e] at g <;> exact absurd g (by decide)
        · rcases hst1 rfl with e | e <;> rw [e] at g <;> exact absurd g (by decide)
      have hvar : zp_variablesHere dr dnum nr nnum latest (zq_op (some n)) (zq_ch k s) = nI (u + zq_post k s) := by
        show zp_variablesHere dr dnum nr nnum latest (nI n) (zq_ch k s) = _
        rw [zp_variablesHere, if_neg hne1, n7, n6]
        have low : zq_ch k s = 101 ∨ zq_ch k s = 99 → (if nnum n 6 = -1 then nI u + 1 else nI u + 2) = nI (u + zq_post k s) := by
          intro g
          have tl : zq_post k s = (if k = 12 ∨ k = 22 then 2 else 1) ∧ ((k = 12 ∨ k = 22) → 5 ≤ s) := by
            rcases g with g | g
            · exact zq_tEl k h8.2 s h8.1 f2 g
            · exact zq_tCl k h8.2 s h8.1 f2 g
          by_cases hk : k = 12 ∨ k = 22
          · rw [if_neg (f5.1 hk (tl.2 hk)), tl.1, if_pos hk]; exact zq_add u 2
          · rw [if_pos (f5.2 hk), tl.1, if_neg hk]; exact zq_add u 1
        by_cases g1 : zq_ch k s = 101
        · rw [if_pos g1]; exact low (Or.inl g1)
        · rw [if_neg g1]
          by_cases g2 : zq_ch k s = 99
          · rw [if_pos g2]; exact low (Or.inr g2)
          · rw [if_neg g2]
            have p0 : zq_post k s = 0 := by
              cases st
              · rcases hst2 Bool.false_ne_true with e | e
                · exact zq_tCu k h8.2 s h8.1 f2 e
                · exact absurd e g2
              · rcases hst1 rfl with e | e
                · exact zq_tEu k h8.2 s h8.1 f2 e
                · exact absurd e g1
            rw [p0, Nat.add_zero]
      rw [hw] at tt
      obtain ⟨tw, t2, t3, t4, t5⟩ := tt
      have tw1 := (List.cons.inj tw).1
      have tw2 := (List.cons.inj tw).2
      subst tw1; subst tw2
      rw [zq_s12 q2, q3, f9]
      have hTS2 : zp_takesStep token att1 name word value dr dnum nr nc nnum nnam 12 latest (nI n) = ((if st = true then zp_beginsE token att1 name word value dr dnum nr nc nnum nnam 12 latest (zq_op (some n)) (zq_ch k s) else zp_beginsC token att1 dr dnum nr nc nnum nnam 12 latest (zq_op (some n)) (zq_ch k s)).1, (if st = true then zp_beginsE token att1 name word value dr dnum nr nc nnum nnam 12 latest (zq_op (some n)) (zq_ch k s) else zp_beginsC token att1 dr dnum nr nc nnum nnam 12 latest (zq_op (some n)) (zq_ch k s)).2.1, (if st = true then zp_beginsE token att1 name word value dr dnum nr nc nnum nnam 12 latest (zq_op (some n)) (zq_ch k s) else zp_beginsC token att1 dr dnum nr nc nnum nnam 12 latest (zq_op (some n)) (zq_ch k s)).2.2.1, (if st = true then zp_beginsE token att1 name word value dr dnum nr nc nnum nnam 12 latest (zq_op (some n)) (zq_ch k s) else zp_beginsC token att1 dr dnum nr nc nnum nnam 12 latest (zq_op (some n)) (zq_ch k s)).2.2.2.1, (if st = true then zp_beginsE token att1 name word value dr dnum nr nc nnum nnam 12 latest (zq_op (some n)) (zq_ch k s) else zp_beginsC token att1 dr dnum nr nc nnum nnam 12 latest (zq_op (some n)) (zq_ch k s)).2.2.2.2.1, (if st = true then zp_beginsE token att1 name word value dr dnum nr nc nnum nnam 12 latest (zq_op (some n)) (zq_ch k s) else zp_beginsC token att1 dr dnum nr nc nnum nnam 12 latest (zq_op (some n)) (zq_ch k s)).2.2.2.2.2.1, (if st = true then zp_beginsE token att1 name word value dr dnum nr nc nnum nnam 12 latest (zq_op (some n)) (zq_ch k s) else zp_beginsC token att1 dr dnum nr nc nnum nnam 12 latest (zq_op (some n)) (zq_ch k s)).2.2.2.2.2.2, zq_ch k s) := by
        rw [hTS]
        cases st
        · rcases hst2 Bool.false_ne_true with e | e <;> simp [e, zq_op]
        · rcases hst1 rfl with e | e <;> simp [e, zq_op]
      generalize hB : (if st = true then zp_beginsE token att1 name word value dr dnum nr nc nnum nnam 12 latest (zq_op (some n)) (zq_ch k s) else zp_beginsC token att1 dr dnum nr nc nnum nnam 12 latest (zq_op (some n)) (zq_ch k s)) = B at hTS2
      refine zq_begin (F := (n, k, s + 1) :: G) (o := some n) (wa := zq_ch k s) (wa' := zq_ch k s) hb hs ht hu r2 r3 (by omega) (by omega) hbad hB (fun g0 g => ?_) (fun g0 g => ?_) hend0 hvar ?_ q4 r10 r9
      · rw [g] at hTS2; exact hyes g0 hTS2
      · rw [g] at hTS2; exact hno g0 hTS2
      · refine ⟨rfl, t2, ?_, hP9 _ hc42, ?_, f6, u, o', by omega, ?_, by omega, ?_, hfG _ (hPn _)⟩
        · rw [zq_P_c (by decide) (by decide), f3]
        · rw [zq_P_c (by decide) (by decide)]
          refine ⟨fun g1 g2 => ?_, f5.2⟩
          refine f5.1 g1 ?_
          have := zq_t5
          refine this k h8.2 s h8.1 f2 g1 g2 ?_
          cases st
          · rcases hst2 Bool.false_ne_true with e | e <;> (rw [e]; decide)
          · rcases hst1 rfl with e | e <;> (rw [e]; decide)
        · rw [zq_P_c (by decide) (by decide), f8]
        · rw [zq_P_c (by decide) (by decide), f10]
    have hclose : token = 3 → (zq_ch k s = 46 ∨ zq_ch k s = 42) → zq_post k s = 0 → ∀ e, e + 1 ≤ 4 * pp → zq_stk aDue aDof (zq_dl G) e → zq_out tx size q dr dc dnum dnam latest plc1 pp (next, token, att1, name, word, value, dr, dc, dnum, dnam, nr, nc, nnum, nnam, 0, 12, latest, nI n, wa) (0, plc1, pp1, tok1, att1, spl1, val1, nr, e, thn, aKnd, aPrn, aPlc, aNpl, aSpl, aVar, aVal, aNam, aSec, aDue, aDof) := by
      intro h3 hc hp e he hk
      have h0 : ¬ token = 0 := by rw [h3]; decide
      obtain ⟨p1, p2⟩ := c2 h0
      subst p1
      rw [f9, hp, Nat.add_zero]
      have hy : zp_takesStep token att1 name word value dr dnum nr nc nnum nnam 12 latest (nI n) = (true, nr, nc, zr_up nnum n 2 (nI nr - nI n), nnam, (zp_goOutTo (nnum n 4)).1, (zp_goOutTo (nnum n 4)).2, zq_ch k s) := by
        rw [hTS]
        rcases hc with e | e <;> simp [e, h3]
      exact zq_close hs p2 b4 r3 he (hyes h0 hy) f6 f10 f11 hk r9 r10
    have hadv : ∀ {nnum' : Nat → Nat → Int32} {nnam' : Nat → Nat → Int64} {aNpl' aSpl' : Nat → Int32} {aNam' aSec' : Nat → Int64} {aDue' aDof' : Nat → Int32} {wa' : Int32} {e : Nat} {th : Int32}, ¬ token = 0 → e ≤ 4 * pp + 1 → zp_takesStep token att1 name word value dr dnum nr nc nnum nnam 12 latest (nI n) = (true, nr, nc, nnum', nnam', 12, nI n, wa') → zq_ok k (s + 1) → nnum' n 9 = nI (s + 1) → zq_sp k (s + 1) (nnum' n 6) → u + zq_mx k (s + 1) ≤ 24 → th = nI (u + zq_pre k (s + 1)) →
        zq_stk aDue' aDof' ((zq_rem k (s + 1)).map (fun w => (w, nI n)) ++ zq_dl G) e → (∀ a c, ¬ a = n → nnum' a c = nnum a c) → (∀ c, c = 0 ∨ c = 1 ∨ c = 2 ∨ c = 4 ∨ c = 7 → nnum' n c = nnum n c) → zq_N nr nnum' nnam' aKnd aPrn aPlc aNpl' aSpl' aVar aVal aNam' aSec' →
        zq_out tx size q dr dc dnum dnam latest plc1 pp (next, token, att1, name, word, value, dr, dc, dnum, dnam, nr, nc, nnum, nnam, 0, 12, latest, nI n, wa) (0, plc1, pp1, tok1, att1, spl1, val1, nr, e, th, aKnd, aPrn, aPlc, aNpl', aSpl', aVar, aVal, aNam', aSec', aDue', aDof') := by
      intro nnum' nnam' aNpl' aSpl' aNam' aSec' aDue' aDof' wa' e th h0 he hy g1 g2 g3 g4 g5 g6 g7 g8 g9
      obtain ⟨p1, p2⟩ := c2 h0
      subst p1
      subst g5
      exact zq_adv hs p2 b4 r3 he (hyes h0 hy) g1 f3 g2 g3 f6 g4 f8 f10 f11 g6 r10 g7 g8 g9
    have hflt3 : token = 0 → ∀ {σ : zm_L}, σ.1 = 3 → σ.2.1 = nI size → σ.2.2.1 = pp1 → σ.2.2.2.2.2.2.2.2.1 ≤ 32991 → zq_out tx size q dr dc dnum dnam latest plc1 pp (next, token, att1, name, word, value, dr, dc, dnum, dnam, nr, nc, nnum, nnam, 0, 12, latest, nI n, wa) σ := by
      intro h0 σ g1 g2 g3 g4
      exact Or.inl ⟨3, att1, by decide, ⟨g1, by rw [g2, c1 h0], by rw [g3]; exact b4, g4⟩, hend0 h0⟩
    have hflt2 : ¬ token = 0 → (zp_takesStep token att1 name word value dr dnum nr nc nnum nnam 12 latest (nI n)).1 = false → ∀ {σ : zm_L}, σ.1 = 2 → σ.2.1 = nI att1 → σ.2.2.1 = pp1 → σ.2.2.2.2.2.2.2.2.1 ≤ 32991 → zq_out tx size q dr dc dnum dnam latest plc1 pp (next, token, att1, name, word, value, dr, dc, dnum, dnam, nr, nc, nnum, nnam, 0, 12, latest, nI n, wa) σ := by
      intro h0 hf σ g1 g2 g3 g4
      refine Or.inl ⟨2, att1, by decide, ⟨g1, g2, by rw [g3]; exact b4, g4⟩, ?_⟩
      generalize zp_takesStep token att1 name word value dr dnum nr nc nnum nnam 12 latest (nI n) = T at hno hf
      obtain ⟨T1, T2, T3, T4, T5, T6, T7, T8⟩ := T
      have hf : T1 = false := hf
      subst hf
      exact hno h0 rfl
    have hcn : (aDof d).toNatClampNeg = n := by rw [q3]; exact zq_cl (by omega)
    rcases zq_tch k h8.2 s h8.1 f2 with hc | hc | hc | hc | hc | hc | hc | hc | hc | hc | hc
    · exact hbeg true (fun _ => Or.inl hc) (fun g => absurd rfl g)
    · exact hbeg true (fun _ => Or.inr hc) (fun g => absurd rfl g)
    · exact hbeg false (fun g => absurd g Bool.false_ne_true) (fun _ => Or.inl hc)
    · exact hbeg false (fun g => absurd g Bool.false_ne_true) (fun _ => Or.inr hc)
    ·
      obtain ⟨t1, t2, t3, t4, t5⟩ := zq_tS k h8.2 s h8.1 f2 hc
      have hrem : zq_rem k s = [7, 3] := by rw [zq_rem, if_pos t1, t2]
      rw [hw] at t2
      have tw1 := (List.cons.inj t2).1
      have tw2 := (List.cons.inj t2).2
      subst tw1; subst tw2
      rw [zq_s7 q2]
      by_cases h3 : token = 3
      · rw [if_pos (b6.1 h3)]
        obtain ⟨e, p1, p2, p3, p4⟩ := q4
        subst p1
        exact hclose h3 (Or.inr hc) t4 e (by omega) p4
      · rw [if_neg (fun g => h3 (b6.2 g)), q3, f9]
        have hd := r5 hc
        have hpu := zq_push (u := (d, aDue, aDof)) 7 (by decide) (nI n) q4
        have hvar : zp_variablesHere dr dnum nr nnum latest (zq_op (some n)) 42 = nI (u + zq_post k s) := by
          show zp_variablesHere dr dnum nr nnum latest (nI n) 42 = _
          rw [zp_variablesHere, if_neg hne1, if_neg (by decide), if_neg (by decide), n7, t4, Nat.add_zero]
        have hTS2 : zp_takesStep token att1 name word value dr dnum nr nc nnum nnam 12 latest (nI n) = ((zp_beginsE token att1 name word value dr dnum nr nc nnum nnam 12 latest (zq_op (some n)) 42).1, (zp_beginsE token att1 name word value dr dnum nr nc nnum nnam 12 latest (zq_op (some n)) 42).2.1, (zp_beginsE token att1 name word value dr dnum nr nc nnum nnam 12 latest (zq_op (some n)) 42).2.2.1, (zp_beginsE token att1 name word value dr dnum nr nc nnum nnam 12 latest (zq_op (some n)) 42).2.2.2.1, (zp_beginsE token att1 name word value dr dnum nr nc nnum nnam 12 latest (zq_op (some n)) 42).2.2.2.2.1, (zp_beginsE token att1 name word value dr dnum nr nc nnum nnam 12 latest (zq_op (some n)) 42).2.2.2.2.2.1, (zp_beginsE token att1 name word value dr dnum nr nc nnum nnam 12 latest (zq_op (some n)) 42).2.2.2.2.2.2, 42) := by
          rw [hTS]; simp [hc, h3, zq_op]
        generalize hB : zp_beginsE token att1 name word value dr dnum nr nc nnum nnam 12 latest (zq_op (some n)) 42 = B at hTS2
        refine zq_begin (st := true) (F := (n, k, s) :: G) (o := some n) (wa := 42) (wa' := 42) (d := (zm_push d aDue aDof 7 (nI n)).1) hb hs ht hu r2 r3 (by show d + 1 + 1 ≤ _; omega) (by omega) hbad ((if_pos rfl).trans hB) (fun g0 g => ?_) (fun g0 g => ?_) hend0 hvar ?_ ?_ r10 r9
        · rw [g] at hTS2; exact hyes g0 hTS2
        · rw [g] at hTS2; exact hno g0 hTS2
        · refine ⟨rfl, f2, ?_, hP9s, ?_, f6, u, o', by omega, ?_, by omega, ?_, hfG _ (hPn _)⟩
          · rw [zq_P_c (by decide) (by decide), f3]
          · rw [zq_P_c (by decide) (by decide)]; exact f5
          · rw [zq_P_c (by decide) (by decide), f8]
          · rw [zq_P_c (by decide) (by decide), f10]
        · have : zq_dl ((n, k, s) :: G) = (7, nI n) :: (3, nI n) :: zq_dl G := by
            rw [zq_dl_cons, zq_q, hrem]; rfl
          rw [this]; exact hpu
    ·
      obtain ⟨t1, t2, t3, t4, t5, t6, t7⟩ := zq_tF k h8.2 s h8.1 f2 hc
      rw [hw] at t2
      have tw1 := (List.cons.inj t2).1
      have tw2 := (List.cons.inj t2).2
      subst tw1; subst tw2
      rw [zq_s9 q2, b8, hcn]
      by_cases h0 : token = 0
      · have e4 := b5.1 h0
        subst e4
        rw [zq_must4, if_neg Bool.false_ne_true]
        exact hflt3 h0 rfl rfl rfl hd3
      · have h4 : ¬ tok1 = 4 := fun g => h0 (b5.2 g)
        have hk := zq_tkn (place := att1) (name := name) (word := word) (token := token) (nnum := nnum) (nnam := nnam) (nr := nr) (by omega) hn (i := 0) (by omega)
        change zp_takesName token att1 name word nr nnum nnam (nI n) 0 = if zp_isFreeName token word = true then (true, zr_up (zr_up nnum n 5 (nI att1)) n 9 (nnum n 9 + 1), zr_up nnam n 0 name) else (false, nnum, nnam) at hk
        by_cases hf : zp_isFreeName token word = true
        · rw [if_pos hf] at hk
          rw [hf, zq_mustT size plc1 h4 att1, if_pos rfl, b9 (zq_free4 hf)]
          have hy : zp_takesStep token att1 name word value dr dnum nr nc nnum nnam 12 latest (nI n) = (true, nr, nc, zr_up (zr_up nnum n 5 (nI att1)) n 9 (nnum n 9 + 1), zr_up nnam n 0 name, 12, nI n, 70) := by
            rw [hTS]; simp [hc, hk]
          have hpost : zq_post k s = 0 := by rw [tpp.1 t1, t4]
          have e := b9 (zq_free4 hf)
          subst e
          refine hadv h0 (by omega) hy t3 ?_ ?_ (by omega) (by rw [f9, hpost, t5]) q4 (fun a c g => hrow 5 (nI att1) a c g) ?_ (zq_N_9 (zq_N_x r9))
          · rw [zq_up_eq, hst9]
          · rw [zq_up_nc (by decide), zq_up_nc (by decide)]
            exact ⟨fun g => absurd g t7, f5.2⟩
          · intro c hcc
            rw [zq_up_nc (by omega), zq_up_nc (by omega)]
        · have hff : zp_isFreeName token word = false := by simpa using hf
          rw [if_neg hf] at hk
          rw [hff, zq_mustF size plc1 h4 att1, if_neg Bool.false_ne_true]
          exact hflt2 h0 (by rw [hTS]; simp [hc, hk]) rfl rfl rfl hd3
    ·
      obtain ⟨t1, t3, t4, t5, t6⟩ := zq_tX k h8.2 s h8.1 f2 hc
      have tx1 := zq_tX1 k h8.2 s h8.1 f2 hc
      have tx2 := zq_tX2 k h8.2 s h8.1 f2 hc
      have hpost : zq_post k s = 0 := by rw [tpp.1 t1, t4]
      have hw5 : w = 5 := by
        by_cases hl : k = 11 ∨ k = 21
        · have := (tx1 hl).1; rw [hw] at this; exact (List.cons.inj this).1
        · have := (tx2 hl).1; rw [hw] at this; exact (List.cons.inj this).1
      subst hw5
      have hth : thn = nI u := by rw [f9, hpost, Nat.add_zero]
      subst hth
      have hk := zq_tvX (place := att1) (name := name) (word := word) (token := token) (nnum := nnum) (nnam := nnam) (nr := nr) (by omega) hn f8 (by omega)
      by_cases h0 : token = 0
      · have e4 := b5.1 h0
        subst e4
        have hg : (zm_must size 0 plc1 4 att1 (zm_isOwn tx pp1 4 att1)).1 = false := by rw [zq_must4]
        rw [zq_s5a q2 hg, zq_must4]
        exact hflt3 h0 rfl rfl rfl hd3
      · have h4 : ¬ tok1 = 4 := fun g => h0 (b5.2 g)
        by_cases hf : zp_isFreeName token word = true
        · rw [zq_s5 q2 h4 (by rw [b8]; exact hf) (by omega) q3 hkd h8.2]
          by_cases hu2 : u < 24
          · rw [if_pos ⟨hu2, hf⟩] at hk
            have hy : zp_takesStep token att1 name word value dr dnum nr nc nnum nnam 12 latest (nI n) = (true, nr, nc, zr_up (zr_up nnum n 5 (nI att1)) n 9 (nnum n 9 + 1), zr_up nnam n 0 name, 12, nI n, 88) := by
              rw [hTS]; simp [hc, hk]
            have e := b9 (zq_free4 hf)
            subst e
            have sp : zq_sp k (s + 1) (zr_up (zr_up nnum n 5 (nI att1)) n 9 (nnum n 9 + 1) n 6) := by
              rw [zq_up_nc (by decide), zq_up_nc (by decide)]
              exact ⟨fun g1 g2 => by have := t6 g1; omega, f5.2⟩
            have hcol : ∀ c, c = 0 ∨ c = 1 ∨ c = 2 ∨ c = 4 ∨ c = 7 → zr_up (zr_up nnum n 5 (nI att1)) n 9 (nnum n 9 + 1) n c = nnum n c := by
              intro c hcc
              rw [zq_up_nc (by omega), zq_up_nc (by omega)]
            by_cases hl : k = 11 ∨ k = 21
            · obtain ⟨l1, l2, l3⟩ := tx1 hl
              rw [hw] at l1
              have tw2 := (List.cons.inj l1).2
              rw [tw2] at q4
              obtain ⟨p1, p2, p3⟩ := zq_letT (size := size) (plc := plc1) (att := att1) (tok := tok1) (o := nI n) hu2 h4 q4
              rw [if_pos hl, p1, p2]
              have hst2 : zq_stk (zm_letBinds size 0 plc1 tok1 att1 d (nI u) aDue aDof (nI n)).2.2.2.1 (zm_letBinds size 0 plc1 tok1 att1 d (nI u) aDue aDof (nI n)).2.2.2.2 ((zq_rem k (s + 1)).map (fun w => (w, nI n)) ++ zq_dl G) (zm_letBinds size 0 plc1 tok1 att1 d (nI u) aDue aDof (nI n)).2.2.1 := by
                rw [l2]; exact p3
              have hlen := zq_stk_len _ _ p3
              have hlen4 := zq_stk_len _ _ q4
              simp only [List.length_cons] at hlen
              refine hadv h0 (by omega) hy t3 (by rw [zq_up_eq, hst9]) sp (by omega) (by rw [l3, Nat.add_zero]) hst2 (fun a c g => hrow 5 (nI att1) a c g) hcol (zq_N_9 (zq_N_x r9))
            · obtain ⟨l1, l3⟩ := tx2 hl
              rw [hw] at l1
              have tw2 := (List.cons.inj l1).2
              rw [tw2] at q4
              rw [if_neg hl, zq_bindT hu2 h4]
              refine hadv h0 (by omega) hy t3 (by rw [zq_up_eq, hst9]) sp (by omega) (by rw [l3]) q4 (fun a c g => hrow 5 (nI att1) a c g) hcol (zq_N_9 (zq_N_x r9))
          · rw [if_neg (fun g => hu2 g.1)] at hk
            have hF : (zp_takesStep token att1 name word value dr dnum nr nc nnum nnam 12 latest (nI n)).1 = false := by rw [hTS]; simp [hc, hk]
            by_cases hl : k = 11 ∨ k = 21
            · obtain ⟨p1, p2, p3⟩ := zq_letF (size := size) (plc := plc1) (att := att1) (tok := tok1) (d := d) (aDue := aDue) (aDof := aDof) (o := nI n) hu2 (by omega) h4
              rw [if_pos hl]
              exact hflt2 h0 hF p1 p2 rfl (by show (zm_letBinds size 0 plc1 tok1 att1 d (nI u) aDue aDof (nI n)).2.2.1 ≤ 32991; rw [p3]; exact hd3)
            · obtain ⟨p1, p2⟩ := zq_bindF (size := size) (plc := plc1) (att := att1) (tok := tok1) hu2 (by omega) h4
              rw [if_neg hl]
              exact hflt2 h0 hF p1 p2 rfl hd3
        · have hff : zp_isFreeName token word = false := by simpa using hf
          rw [if_neg (fun g => hf g.2)] at hk
          have hg : (zm_must size 0 plc1 tok1 att1 (zm_isOwn tx pp1 tok1 att1)).1 = false := by rw [b8, hff, zq_mustF size plc1 h4 att1]
          rw [zq_s5a q2 hg, b8, hff, zq_mustF size plc1 h4 att1]
          exact hflt2 h0 (by rw [hTS]; simp [hc, hk]) rfl rfl rfl hd3
    ·
      obtain ⟨t1, t2, t3, t4, t5, t6, t7, t8⟩ := zq_tY k h8.2 s h8.1 f2 hc
      have hpost : zq_post k s = 1 := by rw [tpp.1 t1, t4]
      rw [hw] at t2
      have tw1 := (List.cons.inj t2).1
      have tw2 := (List.cons.inj t2).2
      subst tw1; subst tw2
      have hth : thn = nI (u + 1) := by rw [f9, hpost]
      subst hth
      have hk := zq_tvY (place := att1) (name := name) (word := word) (token := token) (nnum := nnum) (nnam := nnam) (nr := nr) (by omega) hn f8 (by omega)
      have hnm : nnam n 0 = aNam n := (r9 n hn).2.2.2.2.2.2.2.1
      by_cases h0 : token = 0
      · have e4 := b5.1 h0
        subst e4
        rw [zq_s6e q2]
        exact hflt3 h0 rfl rfl rfl hd3
      · have h4 : ¬ tok1 = 4 := fun g => h0 (b5.2 g)
        by_cases hf : zp_isFreeName token word = true
        · have e := b9 (zq_free4 hf)
          subst e
          by_cases hl : lg_cmp spl1 (aNam n) = 0
          · rw [zq_s6a q2 h4 (Or.inr (by rw [hcn]; exact hl))]
            rw [if_neg (fun g => g.1.1 (by rw [hnm]; exact hl))] at hk
            exact hflt2 h0 (by rw [hTS]; simp [hc, hk]) rfl rfl rfl hd3
          · rw [zq_s6 q2 h4 (by rw [b8]; exact hf) (by rw [hcn]; exact hl), hcn]
            by_cases hu2 : u + 1 < 24
            · rw [if_pos ⟨⟨by rw [hnm]; exact hl, hu2⟩, hf⟩] at hk
              rw [zq_bindT hu2 h4]
              have hy : zp_takesStep token att1 spl1 word value dr dnum nr nc nnum nnam 12 latest (nI n) = (true, nr, nc, zr_up (zr_up nnum n 6 (nI att1)) n 9 (nnum n 9 + 1), zr_up nnam n 1 spl1, 12, nI n, 89) := by
                rw [hTS]; simp [hc, hk]
              refine hadv h0 (by omega) hy t3 (by rw [zq_up_eq, hst9]) ?_ (by omega) (by rw [t5]) q4 (fun a c g => hrow 6 (nI att1) a c g) ?_ (zq_N_9 (zq_N_y r9))
              · rw [zq_up_nc (by decide), zq_up_eq]
                exact ⟨fun _ _ => zq_n1 (by omega), fun g => absurd t7 g⟩
              · intro c hcc
                rw [zq_up_nc (by omega), zq_up_nc (by omega)]
            · rw [if_neg (fun g => hu2 g.1.2)] at hk
              obtain ⟨p1, p2⟩ := zq_bindF (size := size) (plc := plc1) (att := att1) (tok := tok1) hu2 (by omega) h4
              exact hflt2 h0 (by rw [hTS]; simp [hc, hk]) p1 p2 rfl hd3
        · have hff : zp_isFreeName token word = false := by simpa using hf
          rw [if_neg (fun g => hf g.2)] at hk
          rw [zq_s6a q2 h4 (Or.inl (by rw [b8]; exact hff))]
          exact hflt2 h0 (by rw [hTS]; simp [hc, hk]) rfl rfl rfl hd3
    ·
      obtain ⟨t1, t2, t3, t4, t5, t6, t7⟩ := zq_tO k h8.2 s h8.1 f2 hc
      have hpost : zq_post k s = 0 := by rw [tpp.1 t1, t4]
      rw [hw] at t2
      have tw1 := (List.cons.inj t2).1
      have tw2 := (List.cons.inj t2).2
      subst tw1; subst tw2
      rw [zq_s4 q2]
      by_cases h0 : token = 0
      · have e4 := b5.1 h0
        subst e4
        rw [zq_must4]
        exact hflt3 h0 rfl rfl rfl hd3
      · have h4 : ¬ tok1 = 4 := fun g => h0 (b5.2 g)
        by_cases h2 : token = 2
        · rw [decide_eq_true (b7.1 h2), zq_mustT size plc1 h4 att1]
          have hy : zp_takesStep token att1 name word value dr dnum nr nc nnum nnam 12 latest (nI n) = (true, nr, nc, zr_up nnum n 9 (nnum n 9 + 1), nnam, 12, nI n, 40) := by
            rw [hTS]; simp [hc, zp_passesInside, h2, zq_goOn (show nr < 90000 by omega) hn]
          refine hadv h0 (by omega) hy t3 (by rw [zq_up_eq, hst9]) ?_ (by omega) (by rw [f9, hpost, t5]) q4 (fun a c g => zq_up_ne g) (fun c hcc => zq_up_nc (by omega)) (zq_N_9 r9)
          rw [zq_up_nc (by decide)]
          exact ⟨fun _ g2 => by omega, f5.2⟩
        · rw [decide_eq_false (fun g => h2 (b7.2 g)), zq_mustF size plc1 h4 att1]
          exact hflt2 h0 (by rw [hTS]; simp [hc, zp_passesInside, h2]) rfl rfl rfl hd3
    ·
      obtain ⟨t2, t3, t4, t5, t6, t7, t8⟩ := zq_tK k h8.2 s h8.1 f2 hc
      rw [hw] at t2
      have tw1 := (List.cons.inj t2).1
      have tw2 := (List.cons.inj t2).2
      subst tw1; subst tw2
      rw [zq_s3 q2]
      by_cases h0 : token = 0
      · have e4 := b5.1 h0
        subst e4
        rw [zq_must4]
        exact hflt3 h0 rfl rfl rfl hd3
      · have h4 : ¬ tok1 = 4 := fun g => h0 (b5.2 g)
        by_cases h3 : token = 3
        · rw [decide_eq_true (b6.1 h3), zq_mustT size plc1 h4 att1]
          have hy : zp_takesStep token att1 name word value dr dnum nr nc nnum nnam 12 latest (nI n) = (true, nr, nc, zr_up nnum n 9 (nnum n 9 + 1), nnam, 12, nI n, 41) := by
            rw [hTS]; simp [hc, zp_passesInside, h3, zq_goOn (show nr < 90000 by omega) hn]
          refine hadv h0 (by omega) hy t3 (by rw [zq_up_eq, hst9]) ?_ (by omega) (by rw [f9, t4, t5]) q4 (fun a c g => zq_up_ne g) (fun c hcc => zq_up_nc (by omega)) (zq_N_9 r9)
          rw [zq_up_nc (by decide)]
          exact ⟨fun g _ => f5.1 g t8, f5.2⟩
        · rw [decide_eq_false (fun g => h3 (b6.2 g)), zq_mustF size plc1 h4 att1]
          exact hflt2 h0 (by rw [hTS]; simp [hc, zp_passesInside, h3]) rfl rfl rfl hd3
    ·
      obtain ⟨t2, t4⟩ := zq_tD k h8.2 s h8.1 f2 hc
      rw [hw] at t2
      have tw1 := (List.cons.inj t2).1
      have tw2 := (List.cons.inj t2).2
      subst tw1; subst tw2
      rw [zq_s3 q2]
      by_cases h0 : token = 0
      · have e4 := b5.1 h0
        subst e4
        rw [zq_must4]
        exact hflt3 h0 rfl rfl rfl hd3
      · have h4 : ¬ tok1 = 4 := fun g => h0 (b5.2 g)
        by_cases h3 : token = 3
        · rw [decide_eq_true (b6.1 h3), zq_mustT size plc1 h4 att1]
          exact hclose h3 (Or.inl hc) t4 d (by omega) q4
        · rw [decide_eq_false (fun g => h3 (b6.2 g)), zq_mustF size plc1 h4 att1]
          exact hflt2 h0 (by rw [hTS]; simp [hc, h3]) rfl rfl rfl hd3
end
def zq_B (tx : Nat → Nat) (size q : Nat) (st : Bool) (dr : Nat) (dnum : Nat → Nat → Int32) (latest : Int32) (next : Nat) (token : Int32) (place : Nat) (name : Int64) (word value : Int32) (nr : Nat) (nnum : Nat → Nat → Int32) (nnam : Nat → Nat → Int64) (pp : Nat) (thn : Int32) (aKnd aPrn aPlc aNpl aSpl aVar aVal : Nat → Int32) (aNam aSec : Nat → Int64) (aDue aDof : Nat → Int32) : Prop :=
  (∃ (nm : Int64) (wd vl : Int32), (token, next, place, name, word, value) = zt_tok tx size pp nm wd vl) ∧ pp ≤ size ∧ nr < pp ∧ thn = nI q ∧ zp_isChange dr dnum latest = (if st = true then false else true) ∧ zr_num 13 dr dnum latest 2 = nI q ∧ aDue 0 = nI (if st = true then 1 else 2) ∧ aDof 0 = -1 ∧ zq_N nr nnum nnam aKnd aPrn aPlc aNpl aSpl aVar aVal aNam aSec ∧ zq_Z nr nnum (-1) []
section
variable (tx : Nat → Nat) (size q : Nat) (dr dc : Nat) (dnum : Nat → Nat → Int32) (dnam : Nat → Nat → Int64) (latest plc : Int32) (c0 : zp_L)
def zq_IF (σ : zm_L) : Prop := ∃ (f : Int32) (p : Nat), ¬ f = 0 ∧ zq_ft size 32991 f p σ ∧ zq_end tx size c0 f p
def zq_IR (pp0 : Nat) (σ : zm_L) : Prop := ∃ (F : List (Nat × Nat × Nat)) (o : Option Nat) (next : Nat) (token : Int32) (place : Nat) (name : Int64) (word value : Int32) (nr nc : Nat) (nnum : Nat → Nat → Int32) (nnam : Nat → Nat → Int64) (stage wa : Int32) (pp : Nat) (tok : Int32) (att : Nat) (spl : Int64) (val : Int32) (dues : Nat) (thn : Int32) (aKnd aPrn aPlc aNpl aSpl aVar aVal : Nat → Int32) (aNam aSec : Nat → Int64) (aDue aDof : Nat → Int32),
    zq_go tx size c0 (next, token, place, name, word, value, dr, dc, dnum, dnam, nr, nc, nnum, nnam, 0, stage, latest, zq_op o, wa) ∧
    σ = (0, plc, pp, tok, att, spl, val, nr, dues, thn, aKnd, aPrn, aPlc, aNpl, aSpl, aVar, aVal, aNam, aSec, aDue, aDof) ∧ pp0 < pp ∧
    zq_R tx size q F o next token place name word value nr nnum nnam stage pp dues thn aKnd aPrn aPlc aNpl aSpl aVar aVal aNam aSec aDue aDof
def zq_IS (pp0 : Nat) (σ : zm_L) : Prop := ∃ (n k s u : Nat) (G : List (Nat × Nat × Nat)) (o' : Option Nat) (next : Nat) (token : Int32) (place : Nat) (name : Int64) (word value : Int32) (nr nc : Nat) (nnum : Nat → Nat → Int32) (nnam : Nat → Nat → Int64) (wa : Int32) (pp : Nat) (tok : Int32) (att : Nat) (spl : Int64) (val : Int32) (dues : Nat) (thn : Int32) (aKnd aPrn aPlc aNpl aSpl aVar aVal : Nat → Int32) (aNam aSec : Nat → Int64) (aDue aDof : Nat → Int32),
    zq_go tx size c0 (next, token, place, name, word, value, dr, dc, dnum, dnam, nr, nc, nnum, nnam, 0, 12, latest, nI n, wa) ∧
    σ = (0, plc, pp, tok, att, spl, val, nr, dues, thn, aKnd, aPrn, aPlc, aNpl, aSpl, aVar, aVal, aNam, aSec, aDue, aDof) ∧ pp0 < pp ∧
    zq_R2 tx size q n k s u G o' next token place name word value nr nnum nnam pp dues thn aKnd aPrn aPlc aNpl aSpl aVar aVal aNam aSec aDue aDof
def zq_IB (st : Bool) (pp0 : Nat) (σ : zm_L) : Prop := ∃ (next : Nat) (token : Int32) (place : Nat) (name : Int64) (word value : Int32) (nr nc : Nat) (nnum : Nat → Nat → Int32) (nnam : Nat → Nat → Int64) (wa : Int32) (tok : Int32) (att : Nat) (spl : Int64) (val : Int32) (thn : Int32) (aKnd aPrn aPlc aNpl aSpl aVar aVal : Nat → Int32) (aNam aSec : Nat → Int64) (aDue aDof : Nat → Int32),
    zq_go tx size c0 (next, token, place, name, word, value, dr, dc, dnum, dnam, nr, nc, nnum, nnam, 0, 9, latest, -1, wa) ∧
    σ = (0, plc, pp0, tok, att, spl, val, nr, 1, thn, aKnd, aPrn, aPlc, aNpl, aSpl, aVar, aVal, aNam, aSec, aDue, aDof) ∧
    zq_B tx size q st dr dnum latest next token place name word value nr nnum nnam pp0 thn aKnd aPrn aPlc aNpl aSpl aVar aVal aNam aSec aDue aDof
def zq_I (st : Bool) (pp0 : Nat) (σ : zm_L) : Prop := zq_IF tx size c0 σ ∨ zq_IR tx size q dr dc dnum dnam latest plc c0 pp0 σ ∨ zq_IS tx size q dr dc dnum dnam latest plc c0 pp0 σ ∨ zq_IB tx size q dr dc dnum dnam latest plc c0 st pp0 σ
end
section
variable {tx : Nat → Nat} {size q : Nat}
variable {dr dc : Nat} {dnum : Nat → Nat → Int32} {dnam : Nat → Nat → Int64} {latest plc : Int32} {c0 c : zp_L} {st : Bool} {pp0 : Nat} {σ : zm_L}
theorem zq_of_out {pp1 : Nat} (hg : zq_go tx size c0 c) (h : zq_out tx size q dr dc dnum dnam latest plc pp1 c σ) (hp : pp0 ≤ pp1) : zq_IF tx size c0 σ ∨ zq_IR tx size q dr dc dnum dnam latest plc c0 pp1 σ := by
  rcases h with ⟨f, p, h1, h2, h3⟩ | ⟨F, o, a1, a2, a3, a4, a5, a6, a7, a8, a9, b1, b2, b3, b4, b5, b6, b7, b8, b9, c1, c2, c3, c4, c5, c6, c7, c8, c9, d1, d2, d3, g, e, hlt, r⟩
  · exact Or.inl ⟨f, p, h1, h2, zq_end.of hg h3⟩
  · exact Or.inr ⟨F, o, a1, a2, a3, a4, a5, a6, a7, a8, a9, b1, b2, b3, b4, b5, b6, b7, b8, b9, c1, c2, c3, c4, c5, c6, c7, c8, c9, d1, d2, d3, hg.tr g, e, hlt, r⟩
theorem zq_stepB (hb : ∀ k, k < size → tx k < 256) (hs : size ≤ 8192) {next : Nat} {token : Int32} {place : Nat} {name : Int64} {word value : Int32} {nr nc : Nat} {nnum : Nat → Nat → Int32} {nnam : Nat → Nat → Int64} {wa : Int32} {tok : Int32} {att : Nat} {spl : Int64} {val : Int32} {thn : Int32} {aKnd aPrn aPlc aNpl aSpl aVar aVal : Nat → Int32} {aNam aSec : Nat → Int64} {aDue aDof : Nat → Int32} (hq : q ≤ 24)
    (h : zq_B tx size q st dr dnum latest next token place name word value nr nnum nnam pp0 thn aKnd aPrn aPlc aNpl aSpl aVar aVal aNam aSec aDue aDof) :
    zq_out tx size q dr dc dnum dnam latest plc pp0 (next, token, place, name, word, value, dr, dc, dnum, dnam, nr, nc, nnum, nnam, 0, 9, latest, -1, wa) (zm_e1 tx size 0 plc pp0 tok att spl val nr 1 thn aKnd aPrn aPlc aNpl aSpl aVar aVal aNam aSec aDue aDof) := by
  obtain ⟨⟨nm, wd, vl, ht⟩, r2, r3, r4, r5, r6, r7, r8, r9, r10⟩ := h
  subst r4
  have hT := zq_next hb r2 plc tok val wd vl spl nm
  rw [← ht] at hT
  generalize hu : zm_next tx size 0 plc pp0 tok spl val = uu at hT
  obtain ⟨f1, plc1, pp1, tok1, att1, spl1, val1⟩ := uu
  have hw : (if st = true then 1 else 2) < 10 := by cases st <;> decide
  have hw8 : ¬ (if st = true then 1 else 2) = 8 := by cases st <;> decide
  have e1 := zq_e1n (tx := tx) (size := size) (plc := plc) (pp := pp0) (tok := tok) (att := att) (spl := spl) (val := val) (nodes := nr) (d := 0) (thn := nI q) (aKnd := aKnd) (aPrn := aPrn) (aPlc := aPlc) (aNpl := aNpl) (aSpl := aSpl) (aVar := aVar) (aVal := aVal) (aNam := aNam) (aSec := aSec) (aDue := aDue) (aDof := aDof) hw hw8 r7
  rw [Nat.zero_add] at e1
  rw [e1, hu]
  by_cases hbad : token = 1
  · obtain ⟨b1, b2, b3⟩ := zq_tkb hT hbad
    have := zq_sB (tx := tx) (size := size) (plc := plc1) (pp := pp1) (tok := tok1) (att := att1) (spl := spl1) (val := val1) (nodes := nr) (d := 0) (thn := nI q) (aKnd := aKnd) (aPrn := aPrn) (aPlc := aPlc) (aNpl := aNpl) (aSpl := aSpl) (aVar := aVar) (aVal := aVal) (aNam := aNam) (aSec := aSec) (aDue := aDue) (aDof := aDof) b1
    rw [Nat.zero_add] at this
    rw [this]
    subst hbad
    exact Or.inl ⟨1, place, by decide, ⟨b1, b2, b3, by show 0 ≤ 32991; omega⟩, zq_it1⟩
  · obtain ⟨b1, b2, b3, b4, b5, b6, b7, b8, b9, c1, c2, c3, c4, c5⟩ := zq_tkf hT hbad
    subst b1; subst b2; subst b3
    have := zq_s12 (tx := tx) (size := size) (plc := plc1) (pp := pp1) (tok := tok1) (att := att1) (spl := spl1) (val := val1) (nodes := nr) (d := 0) (thn := nI q) (aKnd := aKnd) (aPrn := aPrn) (aPlc := aPlc) (aNpl := aNpl) (aSpl := aSpl) (aVar := aVar) (aVal := aVal) (aNam := aNam) (aSec := aSec) (aDue := aDue) (aDof := aDof) r7
    rw [Nat.zero_add, r8] at this
    rw [this]
    have hTS : zp_takesOutside token att1 name word value dr dc dnum dnam nr nc nnum nnam 9 latest (-1) wa = ((if st = true then zp_beginsE token att1 name word value dr dnum nr nc nnum nnam 9 latest (zq_op none) wa else zp_beginsC token att1 dr dnum nr nc nnum nnam 9 latest (zq_op none) wa).1, dr, dc, dnum, dnam, (if st = true then zp_beginsE token att1 name word value dr dnum nr nc nnum nnam 9 latest (zq_op none) wa else zp_beginsC token att1 dr dnum nr nc nnum nnam 9 latest (zq_op none) wa).2.1, (if st = true then zp_beginsE token att1 name word value dr dnum nr nc nnum nnam 9 latest (zq_op none) wa else zp_beginsC token att1 dr dnum nr nc nnum nnam 9 latest (zq_op none) wa).2.2.1, (if st = true then zp_beginsE token att1 name word value dr dnum nr nc nnum nnam 9 latest (zq_op none) wa else zp_beginsC token att1 dr dnum nr nc nnum nnam 9 latest (zq_op none) wa).2.2.2.1, (if st = true then zp_beginsE token att1 name word value dr dnum nr nc nnum nnam 9 latest (zq_op none) wa else zp_beginsC token att1 dr dnum nr nc nnum nnam 9 latest (zq_op none) wa).2.2.2.2.1, (if st = true then zp_beginsE token att1 name word value dr dnum nr nc nnum nnam 9 latest (zq_op none) wa else zp_beginsC token att1 dr dnum nr nc nnum nnam 9 latest (zq_op none) wa).2.2.2.2.2.1, latest, (if st = true then zp_beginsE token att1 name word value dr dnum nr nc nnum nnam 9 latest (zq_op none) wa else zp_beginsC token att1 dr dnum nr nc nnum nnam 9 latest (zq_op none) wa).2.2.2.2.2.2) := by
      cases st <;> simp [zp_takesOutside, r5, zq_op]
    generalize hB : (if st = true then zp_beginsE token att1 name word value dr dnum nr nc nnum nnam 9 latest (zq_op none) wa else zp_beginsC token att1 dr dnum nr nc nnum nnam 9 latest (zq_op none) wa) = B at hTS
    have hit : ∀ g0 : ¬ token = 0, zq_go tx size (next, token, att1, name, word, value, dr, dc, dnum, dnam, nr, nc, nnum, nnam, 0, 9, latest, -1, wa) _ := fun g0 => zq_go.it (tx := tx) (len := size) (next := next) (place := att1) (name := name) (word := word) (value := value) (dr := dr) (dc := dc) (dnum := dnum) (dnam := dnam) (nr := nr) (nc := nc) (nnum := nnum) (nnam := nnam) (stage := 9) (latest := latest) (op := -1) (wa := wa) g0
    rw [zq_itO hbad (by decide) hTS] at hit
    refine zq_begin (F := []) (o := none) (wa := wa) (wa' := wa) hb hs ht hu r2 r3 (by omega) hq hbad hB (fun g0 g => ?_) (fun g0 g => ?_) ?_ ?_ ⟨rfl, rfl⟩ rfl r10 r9
    · have := hit g0
      rw [if_pos g] at this; exact this
    · have := hit g0
      rw [if_neg (by rw [g]; decide)] at this; exact zq_end2 this
    · intro g; subst g; exact zq_it0 (by decide)
    · rw [zp_variablesHere, zq_op, if_pos rfl]; exact r6
theorem zq_eI (hb : ∀ k, k < size → tx k < 256) (hs : size ≤ 8192) (hq : q ≤ 24) : zm_eI tx size (zq_I tx size q dr dc dnum dnam latest plc c0 st pp0) := by
  intro flt plc' pp tok att spl val nodes dues thn aKnd aPrn aPlc aNpl aSpl aVar aVal aNam aSec aDue aDof h
  have step2 : ∀ {n k s u : Nat} {G : List (Nat × Nat × Nat)} {o' : Option Nat} {next : Nat} {token : Int32} {place : Nat} {name : Int64} {word value : Int32} {nc : Nat} {nnum : Nat → Nat → Int32} {nnam : Nat → Nat → Int64} {wa : Int32}, zq_go tx size c0 (next, token, place, name, word, value, dr, dc, dnum, dnam, nodes, nc, nnum, nnam, 0, 12, latest, nI n, wa) → pp0 < pp → zq_R2 tx size q n k s u G o' next token place name word value nodes nnum nnam pp dues thn aKnd aPrn aPlc aNpl aSpl aVar aVal aNam aSec aDue aDof → plc' = plc → flt = 0 →
      dues ≤ 32991 ∧ pp ≤ size ∧ (¬ dues ≤ 0 → flt = 0 → (¬ aDue (dues - 1) = 10 → nodes < 8192 ∧ (¬ aDue (dues - 1) = 1 → ¬ aDue (dues - 1) = 2 → vp_in (aDof (dues - 1)) 8192) ∧ (aDue (dues - 1) = 7 → 2 ≤ dues)) ∧ zq_I tx size q dr dc dnum dnam latest plc c0 st pp0 (zm_e1 tx size flt plc' pp tok att spl val nodes dues thn aKnd aPrn aPlc aNpl aSpl aVar aVal aNam aSec aDue aDof)) := by
    intro n k s u G o' next token place name word value nc nnum nnam wa hg hp r e1 e2
    subst e1; subst e2
    have hout := zq_step2 (dc := dc) (dnam := dnam) (plc := plc') (tok := tok) (att := att) (spl := spl) (val := val) (wa := wa) (dr := dr) (dnum := dnum) (latest := latest) (nc := nc) hb hs r
    obtain ⟨-, r2, r3, r4, r5, f2, f3, f4, f5, f6, f7, f8, f9, f10, f11, r8, r9, r10⟩ := id r
    have hn := (r10.1 n List.mem_cons_self).1
    refine ⟨by omega, r2, fun _ _ => ⟨fun _ => ⟨by omega, fun _ _ => ?_, fun g => ?_⟩, ?_⟩⟩
    · have h8 := zq_ok8 f2
      have := zq_mnne k h8.2 s h8.1 f2
      generalize zq_mn k s = L at *
      cases L with
      | nil => exact absurd rfl this.2.2
      | cons w L =>
        obtain ⟨d, q1, q2, q3, q4⟩ := r8
        subst q1
        rw [Nat.add_sub_cancel, q3]
        intro g
        rcases g with g | g
        · exact zq_nn (by omega) g
        · rw [zq_cl (by omega)] at g; omega
    · have h8 := zq_ok8 f2
      have m7 : ∀ k : Nat, k < 24 → ∀ s : Nat, s < 8 → zq_ok k s → (zq_mn k s).headD 0 = 7 → 2 ≤ (zq_mn k s).length := by decide +kernel
      have := m7 k h8.2 s h8.1 f2
      have hne := zq_mnne k h8.2 s h8.1 f2
      have hlen := zq_stk_len _ _ r8
      generalize zq_mn k s = L at *
      cases L with
      | nil => exact absurd rfl hne.2.2
      | cons w L =>
        obtain ⟨d, q1, q2, q3, q4⟩ := r8
        subst q1
        rw [Nat.add_sub_cancel, q2] at g
        have hw : w = 7 := (zq_inj (n := 7) (by have := hne.1; simp at this; omega) (by omega)).1 g
        have := this hw
        simp only [List.length_append, List.length_map] at hlen
        omega
    · rcases zq_of_out hg hout (Nat.le_of_lt hp) with h | ⟨F, o, a1, a2, a3, a4, a5, a6, a7, a8, a9, b1, b2, b3, b4, b5, b6, b7, b8, b9, c1, c2, c3, c4, c5, c6, c7, c8, c9, d1, d2, d3, g, e, hlt, r⟩
      · exact Or.inl h
      · exact Or.inr (Or.inl ⟨F, o, a1, a2, a3, a4, a5, a6, a7, a8, a9, b1, b2, b3, b4, b5, b6, b7, b8, b9, c1, c2, c3, c4, c5, c6, c7, c8, c9, d1, d2, d3, g, e, by omega, r⟩)
  rcases h with ⟨f, p, h1, ⟨h2, h3, h4, h5⟩, h6⟩ | ⟨F, o, next, token, place, name, word, value, nr, nc, nnum, nnam, stage, wa, pp', tok', att', spl', val', dues', thn', x1, x2, x3, x4, x5, x6, x7, x8, x9, y1, y2, hg, e, hlt, r⟩ | ⟨n, k, s, u, G, o', next, token, place, name, word, value, nr, nc, nnum, nnam, wa, pp', tok', att', spl', val', dues', thn', x1, x2, x3, x4, x5, x6, x7, x8, x9, y1, y2, hg, e, hlt, r⟩ | ⟨next, token, place, name, word, value, nr, nc, nnum, nnam, wa, tok', att', spl', val', thn', x1, x2, x3, x4, x5, x6, x7, x8, x9, y1, y2, hg, e, r⟩
  · refine ⟨h5, h4, fun _ g => ?_⟩
    have h2 : flt = f := h2
    exact absurd (h2.symm.trans g) h1
  · simp only [Prod.mk.injEq] at e
    obtain ⟨e1, e2, e3, e4, e5, e6, e7, e8, e9, e10, e11, e12, e13, e14, e15, e16, e17, e18, e19, e20, e21⟩ := e
    subst e1; subst e2; subst e3; subst e4; subst e5; subst e6; subst e7; subst e8; subst e9; subst e10; subst e11; subst e12; subst e13; subst e14; subst e15; subst e16; subst e17; subst e18; subst e19; subst e20; subst e21
    obtain ⟨r1, r2, r3, r4, r5, r6, ⟨v, r7, hfr⟩, r8, r9, r10⟩ := id r
    cases F with
    | nil =>
      have : dues = 0 := r8
      exact ⟨by omega, r2, fun g => absurd (by omega) g⟩
    | cons x G =>
      obtain ⟨n, k, s⟩ := x
      have ho : o = some n := hfr.1
      subst ho
      have hst : stage = 12 := r6
      subst hst
      obtain ⟨u, o', hsil | ⟨d, thn', hd1, hd2, hd3, hsil⟩⟩ := zq_silent (plc := plc') (tok := tok) (att := att) (spl := spl) (val := val) hs r
      · exact step2 hg hlt hsil rfl rfl
      · subst hd1
        refine ⟨by omega, r2, fun _ _ => ⟨fun gg => ?_, ?_⟩⟩
        · rw [Nat.add_sub_cancel] at *
          rcases hd3 with hd3 | ⟨hd3, hd4⟩
          · exact absurd hd3 gg
          · refine ⟨by omega, fun _ _ => ?_, fun g => ?_⟩
            · have hn := (r10.1 n List.mem_cons_self).1
              rw [hd4]
              intro g
              rcases g with g | g
              · exact zq_nn (by omega) g
              · rw [zq_cl (by omega)] at g; omega
            · rw [hd3] at g; exact absurd g (by decide)
        · rw [hd2]
          exact Or.inr (Or.inr (Or.inl ⟨n, k, s, u, G, o', next, token, place, name, word, value, nodes, nc, nnum, nnam, wa, pp, tok, att, spl, val, d, thn', _, _, _, _, _, _, _, _, _, _, _, hg, rfl, hlt, hsil⟩))
  · simp only [Prod.mk.injEq] at e
    obtain ⟨e1, e2, e3, e4, e5, e6, e7, e8, e9, e10, e11, e12, e13, e14, e15, e16, e17, e18, e19, e20, e21⟩ := e
    subst e1; subst e3; subst e4; subst e5; subst e6; subst e7; subst e8; subst e9; subst e10; subst e11; subst e12; subst e13; subst e14; subst e15; subst e16; subst e17; subst e18; subst e19; subst e20; subst e21
    exact step2 hg hlt r e2 rfl
  · simp only [Prod.mk.injEq] at e
    obtain ⟨e1, e2, e3, e4, e5, e6, e7, e8, e9, e10, e11, e12, e13, e14, e15, e16, e17, e18, e19, e20, e21⟩ := e
    subst e1; subst e2; subst e3; subst e4; subst e5; subst e6; subst e7; subst e8; subst e9; subst e10; subst e11; subst e12; subst e13; subst e14; subst e15; subst e16; subst e17; subst e18; subst e19; subst e20; subst e21
    have hout := zq_stepB (dc := dc) (dnam := dnam) (plc := plc') (tok := tok) (att := att) (spl := spl) (val := val) (wa := wa) (nc := nc) hb hs hq r
    obtain ⟨t1, t2, t3, t4, t5, t6, t7, t8, t9, t10⟩ := id r
    refine ⟨by omega, t2, fun _ _ => ⟨fun _ => ⟨by omega, fun g1 g2 => ?_, fun g => ?_⟩, ?_⟩⟩
    · change ¬ aDue 0 = 1 at g1
      change ¬ aDue 0 = 2 at g2
      cases st
      · exact absurd t7 g2
      · exact absurd t7 g1
    · change aDue 0 = 7 at g
      rw [t7] at g
      cases st
      · exact absurd g (by decide)
      · exact absurd g (by decide)
    · rcases zq_of_out hg hout (Nat.le_refl _) with h | h
      · exact Or.inl h
      · exact Or.inr (Or.inl h)
end
section
variable {tx : Nat → Nat} {size q : Nat}
variable {dr dc : Nat} {dnum : Nat → Nat → Int32} {dnam : Nat → Nat → Int64} {latest plc : Int32} {c0 c : zp_L} {st : Bool} {pp0 : Nat} {σ : zm_L}
def zq_fin (tx : Nat → Nat) (size q : Nat) (dr dc : Nat) (dnum : Nat → Nat → Int32) (dnam : Nat → Nat → Int64) (latest plc : Int32) (c0 : zp_L) (pp0 : Nat) (σ : zm_L) : Prop :=
  zq_IF tx size c0 σ ∨ (σ.2.2.2.2.2.2.2.2.1 ≤ 0 ∧ zq_IR tx size q dr dc dnum dnam latest plc c0 pp0 σ)
theorem zq_er_s {n : Nat} (h : ¬ σ.2.2.2.2.2.2.2.2.1 ≤ 0) (h0 : σ.1 = 0) : zm_er tx size (n + 1) σ = zm_er tx size n (zm_e1 tx size σ.1 σ.2.1 σ.2.2.1 σ.2.2.2.1 σ.2.2.2.2.1 σ.2.2.2.2.2.1 σ.2.2.2.2.2.2.1 σ.2.2.2.2.2.2.2.1 σ.2.2.2.2.2.2.2.2.1 σ.2.2.2.2.2.2.2.2.2.1 σ.2.2.2.2.2.2.2.2.2.2.1 σ.2.2.2.2.2.2.2.2.2.2.2.1 σ.2.2.2.2.2.2.2.2.2.2.2.2.1 σ.2.2.2.2.2.2.2.2.2.2.2.2.2.1 σ.2.2.2.2.2.2.2.2.2.2.2.2.2.2.1 σ.2.2.2.2.2.2.2.2.2.2.2.2.2.2.2.1 σ.2.2.2.2.2.2.2.2.2.2.2.2.2.2.2.2.1 σ.2.2.2.2.2.2.2.2.2.2.2.2.2.2.2.2.2.1 σ.2.2.2.2.2.2.2.2.2.2.2.2.2.2.2.2.2.2.1 σ.2.2.2.2.2.2.2.2.2.2.2.2.2.2.2.2.2.2.2.1 σ.2.2.2.2.2.2.2.2.2.2.2.2.2.2.2.2.2.2.2.2) := by
  obtain ⟨a1, a2, a3, a4, a5, a6, a7, a8, a9, b1, b2, b3, b4, b5, b6, b7, b8, b9, c1, c2, c3⟩ := σ
  rw [zm_er, if_neg h, if_pos h0]
theorem zq_term (hb : ∀ k, k < size → tx k < 256) (hs : size ≤ 8192) (hq : q ≤ 24) : ∀ (m : Nat), (∀ σ : zm_L, (zq_IR tx size q dr dc dnum dnam latest plc c0 pp0 σ) → size - σ.2.2.1 ≤ m → ∃ n, zq_fin tx size q dr dc dnum dnam latest plc c0 pp0 (zm_er tx size n σ)) := by
  intro m
  induction m using Nat.strongRecOn with
  | _ m ih =>
  have back : ∀ {pp1 : Nat} {c : zp_L} {σ1 : zm_L}, pp0 ≤ pp1 → pp1 < size → size - pp1 ≤ m → zq_go tx size c0 c → zq_out tx size q dr dc dnum dnam latest plc pp1 c σ1 → ∃ n, zq_fin tx size q dr dc dnum dnam latest plc c0 pp0 (zm_er tx size n σ1) := by
    intro pp1 c σ1 hp hp2 hm hg ho
    rcases zq_of_out hg ho hp with h | ⟨F, o, a1, a2, a3, a4, a5, a6, a7, a8, a9, b1, b2, b3, b4, b5, b6, b7, b8, b9, c1, c2, c3, c4, c5, c6, c7, c8, c9, d1, d2, d3, g, e, hlt, r⟩
    · exact ⟨0, Or.inl h⟩
    · have hle := r.2.1
      refine ih (m - 1) (by omega) σ1 ⟨F, o, a1, a2, a3, a4, a5, a6, a7, a8, a9, b1, b2, b3, b4, b5, b6, b7, b8, b9, c1, c2, c3, c4, c5, c6, c7, c8, c9, d1, d2, d3, g, e, by omega, r⟩ ?_
      subst e
      show size - b4 ≤ m - 1
      omega
  intro σ h hm
  obtain ⟨F, o, next, token, place, name, word, value, nr, nc, nnum, nnam, stage, wa, pp, tok, att, spl, val, dues, thn, x1, x2, x3, x4, x5, x6, x7, x8, x9, y1, y2, hg, e, hlt, r⟩ := h
  subst e
  obtain ⟨r1, r2, r3, r4, r5, r6, ⟨v, r7, hfr⟩, r8, r9, r10⟩ := id r
  cases F with
  | nil =>
    have : dues = 0 := r8
    exact ⟨0, Or.inr ⟨by show dues ≤ 0; omega, [], o, next, token, place, name, word, value, nr, nc, nnum, nnam, stage, wa, pp, tok, att, spl, val, dues, thn, _, _, _, _, _, _, _, _, _, _, _, hg, rfl, hlt, r⟩⟩
  | cons x G =>
    obtain ⟨n, k, s⟩ := x
    have ho : o = some n := hfr.1
    subst ho
    have hst : stage = 12 := r6
    subst hst
    have hdp : ¬ dues ≤ 0 := by
      intro g
      have hl := zq_stk_len _ _ r8
      have h8 := zq_ok8 hfr.2.1
      have hne := zq_mnne k h8.2 s h8.1 hfr.2.1
      rw [zq_dl_cons, List.length_append, zq_q, List.length_map, zq_rem] at hl
      have : 0 < (zq_mn k s).length := List.length_pos_iff.2 hne.2.2
      split at hl
      · omega
      · rw [List.length_cons] at hl; omega
    have key : ∀ {d : Nat} {thn' : Int32} {u : Nat} {o' : Option Nat}, ¬ d ≤ 0 → zq_R2 tx size q n k s u G o' next token place name word value nr nnum nnam pp d thn' x1 x2 x3 x4 x5 x6 x7 x8 x9 y1 y2 → ∃ j, zq_fin tx size q dr dc dnum dnam latest plc c0 pp0 (zm_er tx size j (0, plc, pp, tok, att, spl, val, nr, d, thn', x1, x2, x3, x4, x5, x6, x7, x8, x9, y1, y2)) := by
      intro d thn' u o' hd hr2
      have hout := zq_step2 (dc := dc) (dnam := dnam) (plc := plc) (tok := tok) (att := att) (spl := spl) (val := val) (wa := wa) (dr := dr) (dnum := dnum) (latest := latest) (nc := nc) hb hs hr2
      by_cases hps : pp < size
      · obtain ⟨j, hj⟩ := back (Nat.le_of_lt hlt) hps hm hg hout
        exact ⟨j + 1, by rw [zq_er_s hd rfl]; exact hj⟩
      · rcases zq_of_out hg hout (Nat.le_of_lt hlt) with h | ⟨F, o, a1, a2, a3, a4, a5, a6, a7, a8, a9, b1, b2, b3, b4, b5, b6, b7, b8, b9, c1, c2, c3, c4, c5, c6, c7, c8, c9, d1, d2, d3, g, e, hlt2, r'⟩
        · exact ⟨1, by rw [zq_er_s hd rfl]; exact Or.inl h⟩
        · have := r'.2.1
          omega
    obtain ⟨u, o', hsil | ⟨d, thn', hd1, hd2, hd3, hsil⟩⟩ := zq_silent (plc := plc) (tok := tok) (att := att) (spl := spl) (val := val) hs r
    · exact key hdp hsil
    · have hdd : ¬ d ≤ 0 := by
        intro g
        have hl := zq_stk_len _ _ hsil.2.2.2.2.2.2.2.2.2.2.2.2.2.2.2.1
        have h8 := zq_ok8 hfr.2.1
        have hne := zq_mnne k h8.2 s h8.1 hfr.2.1
        have : 0 < (zq_mn k s).length := List.length_pos_iff.2 hne.2.2
        rw [List.length_append, List.length_map] at hl
        omega
      obtain ⟨j, hj⟩ := key hdd hsil
      refine ⟨j + 1, ?_⟩
      rw [zq_er_s hdp rfl]
      show zq_fin _ _ _ _ _ _ _ _ _ _ _ (zm_er tx size j (zm_e1 tx size 0 plc pp tok att spl val nr dues thn x1 x2 x3 x4 x5 x6 x7 x8 x9 y1 y2))
      rw [hd2]
      exact hj
theorem zq_expr (hb : ∀ k, k < size → tx k < 256) (hs : size ≤ 8192) (hq : q ≤ 24) (h : zq_IB tx size q dr dc dnum dnam latest plc c0 st pp0 σ) : ∃ n, zq_fin tx size q dr dc dnum dnam latest plc c0 pp0 (zm_er tx size n σ) := by
  obtain ⟨next, token, place, name, word, value, nr, nc, nnum, nnam, wa, tok, att, spl, val, thn, x1, x2, x3, x4, x5, x6, x7, x8, x9, y1, y2, hg, e, r⟩ := h
  subst e
  have hout := zq_stepB (dc := dc) (dnam := dnam) (plc := plc) (tok := tok) (att := att) (spl := spl) (val := val) (wa := wa) (nc := nc) hb hs hq r
  have hd : ¬ (1 : Nat) ≤ 0 := by omega
  rcases zq_of_out hg hout (Nat.le_refl _) with h | h
  · exact ⟨1, by rw [zq_er_s hd rfl]; exact Or.inl h⟩
  · obtain ⟨j, hj⟩ := zq_term hb hs hq size _ h (by omega)
    exact ⟨j + 1, by rw [zq_er_s hd rfl]; exact hj⟩
theorem zq_fin_stop (h : zq_fin tx size q dr dc dnum dnam latest plc c0 pp0 σ) : σ.2.2.2.2.2.2.2.2.1 ≤ 0 ∨ ¬ σ.1 = 0 := by
  rcases h with ⟨f, p, h1, h2, -⟩ | h
  · exact Or.inr (by rw [h2.1]; exact h1)
  · exact Or.inl h.1
theorem zq_fin13 (h : zq_fin tx size q dr dc dnum dnam latest plc c0 pp0 σ) : (∃ p, σ.2.1 = nI p ∧ zq_end tx size c0 σ.1 p) ∨ (σ.1 = 0 ∧ σ.2.1 = plc ∧ pp0 < σ.2.2.1 ∧ ∃ (next : Nat) (token : Int32) (place : Nat) (name : Int64) (word value : Int32) (nc : Nat) (nnum : Nat → Nat → Int32) (nnam : Nat → Nat → Int64) (wa : Int32), zq_go tx size c0 (next, token, place, name, word, value, dr, dc, dnum, dnam, σ.2.2.2.2.2.2.2.1, nc, nnum, nnam, 0, 13, latest, -1, wa) ∧ (∃ (nm : Int64) (wd vl : Int32), (token, next, place, name, word, value) = zt_tok tx size σ.2.2.1 nm wd vl) ∧ σ.2.2.1 ≤ size ∧ σ.2.2.2.2.2.2.2.1 < σ.2.2.1 ∧ zq_N σ.2.2.2.2.2.2.2.1 nnum nnam σ.2.2.2.2.2.2.2.2.2.2.1 σ.2.2.2.2.2.2.2.2.2.2.2.1 σ.2.2.2.2.2.2.2.2.2.2.2.2.1 σ.2.2.2.2.2.2.2.2.2.2.2.2.2.1 σ.2.2.2.2.2.2.2.2.2.2.2.2.2.2.1 σ.2.2.2.2.2.2.2.2.2.2.2.2.2.2.2.1 σ.2.2.2.2.2.2.2.2.2.2.2.2.2.2.2.2.1 σ.2.2.2.2.2.2.2.2.2.2.2.2.2.2.2.2.2.1 σ.2.2.2.2.2.2.2.2.2.2.2.2.2.2.2.2.2.2.1 ∧ zq_Z σ.2.2.2.2.2.2.2.1 nnum (-1) []) := by
  rcases h with ⟨f, p, h1, ⟨h2, h3, h4, h5⟩, h6⟩ | ⟨hd, F, o, next, token, place, name, word, value, nr, nc, nnum, nnam, stage, wa, pp, tok, att, spl, val, dues, thn, x1, x2, x3, x4, x5, x6, x7, x8, x9, y1, y2, hg, e, hlt, r⟩
  · exact Or.inl ⟨p, h3, by rw [h2]; exact h6⟩
  · subst e
    obtain ⟨r1, r2, r3, r4, r5, r6, ⟨v, r7, hfr⟩, r8, r9, r10⟩ := r
    have hd : dues ≤ 0 := hd
    cases F with
    | nil =>
      have ho : o = none := hfr.1
      subst ho
      have hst : stage = 13 := r6
      subst hst
      exact Or.inr ⟨rfl, rfl, hlt, next, token, place, name, word, value, nc, nnum, nnam, wa, hg, r1, r2, r3, r9, r10⟩
    | cons x G =>
      obtain ⟨n, k, s⟩ := x
      exfalso
      have hl := zq_stk_len _ _ r8
      have h8 := zq_ok8 hfr.2.1
      have hne := zq_mnne k h8.2 s h8.1 hfr.2.1
      rw [zq_dl_cons, List.length_append, zq_q, List.length_map, zq_rem] at hl
      have : 0 < (zq_mn k s).length := List.length_pos_iff.2 hne.2.2
      split at hl
      · omega
      · rw [List.length_cons] at hl; omega
end
