theorem zq_end_pos {tx : Nat → Nat} {len : Nat} {c : zp_L} {f : Int32} {p : Nat} (h : zq_end tx len c f p) : 0 < f ∧ ¬ f = 0 := by
  obtain ⟨a1, a2, a3, a4, a5, a6, a7, a8, a9, b1, b2, b3, b4, b5, b6, b7, b8, b9, g, k⟩ := h
  rcases k with ⟨-, rfl | rfl⟩ | ⟨-, -, -, rfl⟩ <;> decide
def zq_CO (tx : Nat → Nat) (size : Nat) (c0 : zp_L) (stg : Int32) (dr : Nat) (latest : Int32) (dnum : Nat → Nat → Int32) (dnam : Nat → Nat → Int64) (nr : Nat) (nnum : Nat → Nat → Int32) (nnam : Nat → Nat → Int64) (pp : Nat) : Prop :=
  ∃ (next : Nat) (token : Int32) (place : Nat) (name : Int64) (word value : Int32) (dc nc : Nat) (wa : Int32), zq_go tx size c0 (next, token, place, name, word, value, dr, dc, dnum, dnam, nr, nc, nnum, nnam, 0, stg, latest, -1, wa) ∧ (∃ (nm : Int64) (wd vl : Int32), (token, next, place, name, word, value) = zt_tok tx size pp nm wd vl) ∧ pp ≤ size
def zq_Q (tx : Nat → Nat) (size : Nat) (c0 : zp_L) (flt plc : Int32) : Prop := ∃ p, plc = nI p ∧ zq_end tx size c0 flt p
section
variable {tx : Nat → Nat} {size : Nat}
variable {c0 : zp_L} {stg : Int32} {dr : Nat} {latest : Int32} {dnum : Nat → Nat → Int32} {dnam : Nat → Nat → Int64} {nr : Nat} {nnum : Nat → Nat → Int32} {nnam : Nat → Nat → Int64} {pp : Nat} {plc tok : Int32} {spl : Int64} {val : Int32} {f1 plc1 : Int32} {pp1 : Nat} {tok1 : Int32} {att1 : Nat} {spl1 : Int64} {val1 : Int32}
theorem zq_Cn (hb : ∀ k, k < size → tx k < 256) (h : zq_CO tx size c0 stg dr latest dnum dnam nr nnum nnam pp) (h12 : ¬ stg = 12) (hu : (f1, plc1, pp1, tok1, att1, spl1, val1) = zm_next tx size 0 plc pp tok spl val) :
    pp1 ≤ size ∧ att1 ≤ size ∧
    ((f1 = 1 ∧ zq_Q tx size c0 1 plc1) ∨
     (f1 = 0 ∧ plc1 = plc ∧ tok1 = 4 ∧ att1 = size ∧ (¬ stg = 0 → zq_end tx size c0 3 size) ∧ zm_isOwn tx pp1 tok1 att1 = false ∧ zm_type tx pp1 tok1 att1 = -1 ∧ zm_is tx pp1 tok1 att1 11 = false ∧ zm_is tx pp1 tok1 att1 12 = false ∧ ∃ (next : Nat) (name : Int64) (word value : Int32) (dc nc : Nat) (wa : Int32), zq_go tx size c0 (next, 0, size, name, word, value, dr, dc, dnum, dnam, nr, nc, nnum, nnam, 0, stg, latest, -1, wa)) ∨
     (f1 = 0 ∧ plc1 = plc ∧ ¬ tok1 = 4 ∧ pp < pp1 ∧ ∃ (token : Int32) (name : Int64) (word value : Int32) (dc nc : Nat) (wa : Int32), (token = 3 ↔ tok1 = 1) ∧ (token = 2 ↔ tok1 = 0) ∧ zm_isOwn tx pp1 tok1 att1 = zp_isFreeName token word ∧ (token = 4 → spl1 = name) ∧ zm_type tx pp1 tok1 att1 = zp_typeHere token word ∧ zm_is tx pp1 tok1 att1 11 = decide (zp_wordHere token word = 0) ∧ zm_is tx pp1 tok1 att1 12 = decide (zp_wordHere token word = 1) ∧
       ∀ (b : Bool) (dr' dc' : Nat) (dnum' : Nat → Nat → Int32) (dnam' : Nat → Nat → Int64) (nr' nc' : Nat) (nnum' : Nat → Nat → Int32) (nnam' : Nat → Nat → Int64) (stg' latest' : Int32), zp_takesOutside token att1 name word value dr dc dnum dnam nr nc nnum nnam stg latest (-1) wa = (b, dr', dc', dnum', dnam', nr', nc', nnum', nnam', stg', latest', -1) →
         (b = true → zq_CO tx size c0 stg' dr' latest' dnum' dnam' nr' nnum' nnam' pp1) ∧ (b = false → zq_end tx size c0 2 att1))) := by
  obtain ⟨next, token, place, name, word, value, dc, nc, wa, hg, ⟨nm, wd, vl, ht⟩, hp⟩ := h
  have hT := zq_next hb hp plc tok val wd vl spl nm
  rw [← ht, ← hu] at hT
  have hpl : place ≤ size := hT.2.2.2.1
  have hpa : att1 = place := hT.2.1
  have hps : pp1 ≤ size := hT.2.2.1
  refine ⟨hps, by omega, ?_⟩
  by_cases hbad : token = 1
  · obtain ⟨b1, b2, b3⟩ := zq_tkb hT hbad
    subst hbad
    exact Or.inl ⟨b1, place, b2, zq_end.of hg zq_it1⟩
  · obtain ⟨b1, b2, b3, b4, b5, b6, b7, b8, b9, c1, c2, c3, c4, c5⟩ := zq_tkf hT hbad
    subst b3
    by_cases h0 : token = 0
    · have e4 := b5.1 h0
      subst h0
      have e := c1 rfl
      subst e
      refine Or.inr (Or.inl ⟨b1, b2, e4, rfl, fun g => zq_end.of hg (zq_it0 g), ?_, ?_, ?_, ?_, next, name, word, value, dc, nc, wa, hg⟩)
      · rw [b8]; rfl
      · rw [c3]; rfl
      · rw [c4]; rfl
      · rw [c5]; rfl
    · obtain ⟨p1, p2⟩ := c2 h0
      subst p1
      refine Or.inr (Or.inr ⟨b1, b2, fun g => h0 (b5.2 g), p2, token, name, word, value, dc, nc, wa, b6, b7, b8, b9, c3, c4, c5, ?_⟩)
      intro b dr' dc' dnum' dnam' nr' nc' nnum' nnam' stg' latest' hto
      have g := zq_go.it (tx := tx) (len := size) (next := pp1) (place := att1) (name := name) (word := word) (value := value) (dr := dr) (dc := dc) (dnum := dnum) (dnam := dnam) (nr := nr) (nc := nc) (nnum := nnum) (nnam := nnam) (stage := stg) (latest := latest) (op := -1) (wa := wa) h0
      rw [zq_itO hbad h12 hto] at g
      constructor
      · rintro rfl
        rw [if_pos rfl] at g
        exact ⟨_, _, _, _, _, _, _, _, _, hg.tr g, ⟨_, _, _, rfl⟩, hps⟩
      · rintro rfl
        rw [if_neg Bool.false_ne_true] at g
        exact zq_end.of hg (zq_end2 g)
end
def zq_Dp (dnum : Nat → Nat → Int32) (dnam : Nat → Nat → Int64) (aChg aPar aTpl : Nat → Int32) (aTit aPnm : Nat → Int64) (aPty : Nat → Int32) (d q : Nat) : Prop :=
  q ≤ 8 ∧ dnum d 0 = aChg d ∧ (aChg d = 0 ∨ aChg d = 1) ∧ dnum d 2 = nI q ∧ aPar d = nI q ∧ dnum d 4 = aTpl d ∧ dnam d 0 = aTit d ∧ (∀ i, i < q → dnam d (1 + i) = aPnm (8 * d + i) ∧ dnum d (5 + i) = aPty (8 * d + i)) ∧ (∀ i, q ≤ i → i < 8 → dnam d (1 + i) = 0 ∧ dnum d (5 + i) = -1)
def zq_D (n : Nat) (dnum : Nat → Nat → Int32) (dnam : Nat → Nat → Int64) (aChg aTyp aPar aFst aTpl : Nat → Int32) (aTit aPnm : Nat → Int64) (aPty : Nat → Int32) : Prop :=
  ∀ d, d < n → (∃ q, zq_Dp dnum dnam aChg aPar aTpl aTit aPnm aPty d q) ∧ dnum d 1 = aTyp d ∧ dnum d 3 = aFst d
theorem zq_D_c {n : Nat} {dnum dnum' : Nat → Nat → Int32} {dnam dnam' : Nat → Nat → Int64} {aChg aTyp aPar aFst aTpl aChg' aTyp' aPar' aFst' aTpl' : Nat → Int32} {aTit aPnm aTit' aPnm' : Nat → Int64} {aPty aPty' : Nat → Int32} (h : zq_D n dnum dnam aChg aTyp aPar aFst aTpl aTit aPnm aPty)
    (h1 : ∀ d, d < n → (∀ c, dnum' d c = dnum d c) ∧ (∀ c, dnam' d c = dnam d c) ∧ aChg' d = aChg d ∧ aTyp' d = aTyp d ∧ aPar' d = aPar d ∧ aFst' d = aFst d ∧ aTpl' d = aTpl d ∧ aTit' d = aTit d) (h2 : ∀ j, j < 8 * n → aPnm' j = aPnm j ∧ aPty' j = aPty j) :
    zq_D n dnum' dnam' aChg' aTyp' aPar' aFst' aTpl' aTit' aPnm' aPty' := by
  intro d hd
  obtain ⟨⟨q, q1, q2, q3, q4, q5, q6, q7, q8, q9⟩, k1, k3⟩ := h d hd
  obtain ⟨e1, e2, e3, e4, e5, e6, e7, e8⟩ := h1 d hd
  refine ⟨⟨q, q1, by rw [e1, e3, q2], by rw [e3]; exact q3, by rw [e1, q4], by rw [e5, q5], by rw [e1, e7, q6], by rw [e2, e8, q7], fun i hi => ?_, fun i a b => ?_⟩, by rw [e1, e4, k1], by rw [e1, e6, k3]⟩
  · obtain ⟨g1, g2⟩ := h2 (8 * d + i) (by omega)
    rw [e1, e2, g1, g2]; exact q8 i hi
  · rw [e1, e2]; exact q9 i a b
theorem zq_lgc (x y : Int64) : lg_cmp x y = 0 ↔ x = y := by
  rw [lg_cmp]
  by_cases h : x > y
  · rw [if_pos h]
    refine ⟨fun g => absurd g (by decide), fun g => ?_⟩
    subst g
    exact absurd h (by rw [GT.gt, Int64.lt_iff_toInt_lt]; omega)
  · rw [if_neg h]
    by_cases h2 : x = y
    · rw [if_pos h2]; exact ⟨fun _ => h2, fun _ => rfl⟩
    · rw [if_neg h2]; exact ⟨fun g => absurd g (by decide), fun g => absurd g h2⟩
theorem zq_rdlT (spl : Int64) (aTit : Nat → Int64) : ∀ n k, (zl_zm_rdl spl aTit n true k).1 = true := by
  intro n
  induction n with
  | zero => intro k; rfl
  | succ n ih => intro k; rw [zl_zm_rdl, if_pos rfl]; exact ih _
theorem zq_rdl (spl : Int64) (aTit : Nat → Int64) (f : Nat → Int64) : ∀ n k, (∀ j, k ≤ j → j < k + n → f j = aTit j) → (zl_zm_rdl spl aTit n false k).1 = zp_dupF f spl n k := by
  intro n
  induction n with
  | zero => intro k _; rfl
  | succ n ih =>
    intro k h
    rw [zl_zm_rdl, if_neg Bool.false_ne_true, zp_dupF, h k (by omega) (by omega)]
    by_cases e : aTit k = spl
    · rw [if_pos ((zq_lgc _ _).2 e), if_pos e]; exact zq_rdlT _ _ _ _
    · rw [if_neg (fun g => e ((zq_lgc _ _).1 g)), if_neg e]; exact ih (k + 1) (fun j a b => h j (by omega) (by omega))
theorem zq_rplT (spl : Int64) (aPnm : Nat → Int64) (d : Nat) : ∀ n k, (zl_zm_rpl spl aPnm d n true k).1 = true := by
  intro n
  induction n with
  | zero => intro k; rfl
  | succ n ih => intro k; rw [zl_zm_rpl, if_pos rfl]; exact ih _
theorem zq_rpl (spl : Int64) (aPnm : Nat → Int64) (d : Nat) (f : Nat → Int64) : ∀ n k, (∀ j, k ≤ j → j < k + n → f j = aPnm (8 * d + j)) → (zl_zm_rpl spl aPnm d n false k).1 = zp_dupF f spl n k := by
  intro n
  induction n with
  | zero => intro k _; rfl
  | succ n ih =>
    intro k h
    rw [zl_zm_rpl, if_neg Bool.false_ne_true, zp_dupF, h k (by omega) (by omega)]
    by_cases e : aPnm (8 * d + k) = spl
    · rw [if_pos ((zq_lgc _ _).2 e), if_pos e]; exact zq_rplT _ _ _ _ _
    · rw [if_neg (fun g => e ((zq_lgc _ _).1 g)), if_neg e]; exact ih (k + 1) (fun j a b => h j (by omega) (by omega))
theorem zq_mustQ {size : Nat} {flt plc tok : Int32} {att : Nat} (h : ¬ flt = 0) (g : Bool) : zm_must size flt plc tok att g = (false, flt, plc) := by
  simp only [zm_must, if_neg h]
theorem zq_nf {tx : Nat → Nat} {size : Nat} {flt plc : Int32} {pp : Nat} {tok : Int32} {spl : Int64} {val : Int32} (h : ¬ flt = 0) : (zm_next tx size flt plc pp tok spl val).1 = flt ∧ (zm_next tx size flt plc pp tok spl val).2.1 = plc := by
  have h1 : ∀ a b, (zm_readName tx flt plc a b).1 = flt ∧ (zm_readName tx flt plc a b).2.1 = plc := by
    intro a b
    simp only [zm_readName, zm_wrong, if_neg h, apply_ite Prod.fst, apply_ite Prod.snd, ite_self]
    exact ⟨trivial, trivial⟩
  have h2 : ∀ a b, (zm_readNumber tx flt plc a b).1 = flt ∧ (zm_readNumber tx flt plc a b).2.1 = plc := by
    intro a b
    simp only [zm_readNumber, zm_wrong, if_neg h, apply_ite Prod.fst, apply_ite Prod.snd, ite_self]
    exact ⟨trivial, trivial⟩
  simp only [zm_next, h1, h2, zm_wrong, if_neg h, apply_ite Prod.fst, apply_ite Prod.snd, ite_self]
  exact ⟨trivial, trivial⟩
section
variable {tx : Nat → Nat} {size : Nat}
variable {c0 : zp_L} {dnum : Nat → Nat → Int32} {dnam : Nat → Nat → Int64} {nr : Nat} {nnum : Nat → Nat → Int32} {nnam : Nat → Nat → Int64} {pp : Nat} {flt plc tok : Int32} {att : Nat} {spl : Int64} {val : Int32} {d : Nat} {aChg aPar aTpl aTyp aFst : Nat → Int32} {aTit aPnm : Nat → Int64} {aPty : Nat → Int32}
theorem zq_s13 {r nr c : Nat} (hr : r < nr) (hn : nr < 100000) (hc : c < 13) (num : Nat → Nat → Int32) (v : Int32) : zr_set 13 nr num (nI r) (nI c) v = zr_up num r c v := zq_set hr hn hc (by omega) num v
theorem zq_n13 {r nr c : Nat} (hr : r < nr) (hn : nr < 100000) (hc : c < 13) (num : Nat → Nat → Int32) : zr_num 13 nr num (nI r) (nI c) = num r c := zq_num_ hr hn hc (by omega) num
theorem zq_L1 (hb : ∀ k, k < size → tx k < 256) (hd : d < 64) (h : zq_CO tx size c0 1 (d + 1) (nI d) dnum dnam nr nnum nnam pp) :
    (∃ e : Int32, (e = 0 ∨ e = 1) ∧ (zs_zm_rd1 tx size 0 plc pp tok spl val aChg d).2.2.2.2.2.2.2 = upd aChg d e ∧
      (zq_Q tx size c0 (zs_zm_rd1 tx size 0 plc pp tok spl val aChg d).1 (zs_zm_rd1 tx size 0 plc pp tok spl val aChg d).2.1 ∨
       ∃ (ppx : Nat) (tokx : Int32) (splx : Int64) (valx : Int32), pp < ppx ∧ zq_CO tx size c0 2 (d + 1) (nI d) (zr_up dnum d 0 e) dnam nr nnum nnam ppx ∧
         ((zs_zm_rd1 tx size 0 plc pp tok spl val aChg d).1, (zs_zm_rd1 tx size 0 plc pp tok spl val aChg d).2.1, (zs_zm_rd1 tx size 0 plc pp tok spl val aChg d).2.2.1, (zs_zm_rd1 tx size 0 plc pp tok spl val aChg d).2.2.2.1, (zs_zm_rd1 tx size 0 plc pp tok spl val aChg d).2.2.2.2.1, (zs_zm_rd1 tx size 0 plc pp tok spl val aChg d).2.2.2.2.2.1, (zs_zm_rd1 tx size 0 plc pp tok spl val aChg d).2.2.2.2.2.2.1) = zm_next tx size 0 plc ppx tokx splx valx)) := by
  rw [zs_zm_rd1]
  generalize hu : zm_next tx size 0 plc pp tok spl val = u
  obtain ⟨f1, plc1, pp1, tok1, att1, spl1, val1⟩ := u
  obtain ⟨q1, q2, q3⟩ := zq_Cn hb h (by decide) hu.symm
  rcases q3 with ⟨rfl, hq⟩ | ⟨rfl, rfl, rfl, rfl, he, ow, ty, i1, i2, -⟩ | ⟨rfl, rfl, h4, hlt, token, name, word, value, dc, nc, wa, t3, t2, ow, sp, ty, i1, i2, hto⟩
  · refine ⟨0, Or.inl rfl, ?_⟩
    simp only [zs_zm_rd1_1, zs_zm_rd1_2, zq_mustQ (show ¬ (1 : Int32) = 0 by decide)]
    exact ⟨rfl, Or.inl hq⟩
  · refine ⟨0, Or.inl rfl, ?_⟩
    simp only [zs_zm_rd1_1, zs_zm_rd1_8, i1, i2, zq_must4]
    exact ⟨rfl, Or.inl ⟨_, rfl, he (by decide)⟩⟩
  · have e0 : ∀ v, zr_set 13 (d + 1) dnum (nI d) 0 v = zr_up dnum d 0 v := fun v => zq_s13 (c := 0) (by omega) (by omega) (by omega) dnum v
    by_cases w0 : zp_wordHere token word = 0
    · have w1 : ¬ zp_wordHere token word = 1 := by rw [w0]; decide
      have := hto true (d + 1) dc (zr_up dnum d 0 0) dnam nr nc nnum nnam 2 (nI d) (by simp [zp_takesOutside, zp_takesLevel, w0, e0])
      refine ⟨0, Or.inl rfl, ?_⟩
      rw [decide_eq_true w0] at i1
      rw [decide_eq_false w1] at i2
      simp only [zs_zm_rd1_1, zs_zm_rd1_5, zs_zm_rd1_6, i1, i2, zq_mustT size plc1 h4 att1]
      exact ⟨rfl, Or.inr ⟨pp1, tok1, spl1, val1, hlt, this.1 rfl, rfl⟩⟩
    · rw [decide_eq_false w0] at i1
      by_cases w1 : zp_wordHere token word = 1
      · have := hto true (d + 1) dc (zr_up dnum d 0 1) dnam nr nc nnum nnam 2 (nI d) (by simp [zp_takesOutside, zp_takesLevel, w1, e0])
        refine ⟨1, Or.inr rfl, ?_⟩
        rw [decide_eq_true w1] at i2
        simp only [zs_zm_rd1_1, zs_zm_rd1_10, zs_zm_rd1_11, i1, i2, zq_mustT size plc1 h4 att1]
        exact ⟨rfl, Or.inr ⟨pp1, tok1, spl1, val1, hlt, this.1 rfl, rfl⟩⟩
      · have := hto false (d + 1) dc dnum dnam nr nc nnum nnam 1 (nI d) (by simp [zp_takesOutside, zp_takesLevel, w0, w1])
        refine ⟨0, Or.inl rfl, ?_⟩
        rw [decide_eq_false w1] at i2
        simp only [zs_zm_rd1_1, zs_zm_rd1_8, i1, i2, zq_mustF size plc1 h4 att1]
        exact ⟨rfl, Or.inl ⟨_, rfl, this.2 rfl⟩⟩
theorem zq_L2 (hb : ∀ k, k < size → tx k < 256) (hd : d < 64) {tw : Bool} (htw : tw = (zl_zm_rdl spl aTit (d - 0) false 0).1) (hT : ∀ k, k < d → dnam k 0 = aTit k)
    {plc0 : Int32} {m0 : Nat} (h : zq_Q tx size c0 flt plc ∨ ∃ (ppx : Nat) (tokx : Int32) (splx : Int64) (valx : Int32), m0 < ppx ∧ zq_CO tx size c0 2 (d + 1) (nI d) dnum dnam nr nnum nnam ppx ∧ (flt, plc, pp, tok, att, spl, val) = zm_next tx size 0 plc0 ppx tokx splx valx) :
    (zs_zm_rd2 tx size flt plc pp tok att spl val aPar aTpl aTit d tw).2.2.2.2.2.2.2.1 = upd aPar d 0 ∧ (zs_zm_rd2 tx size flt plc pp tok att spl val aPar aTpl aTit d tw).2.2.2.2.2.2.2.2.1 = upd aTpl d (nI att) ∧ (zs_zm_rd2 tx size flt plc pp tok att spl val aPar aTpl aTit d tw).2.2.2.2.2.2.2.2.2 = vp_updL aTit d spl ∧
    (zq_Q tx size c0 (zs_zm_rd2 tx size flt plc pp tok att spl val aPar aTpl aTit d tw).1 (zs_zm_rd2 tx size flt plc pp tok att spl val aPar aTpl aTit d tw).2.1 ∨
      ((zs_zm_rd2 tx size flt plc pp tok att spl val aPar aTpl aTit d tw).1 = 0 ∧ (zs_zm_rd2 tx size flt plc pp tok att spl val aPar aTpl aTit d tw).2.1 = plc0 ∧ m0 < (zs_zm_rd2 tx size flt plc pp tok att spl val aPar aTpl aTit d tw).2.2.1 ∧ zq_CO tx size c0 4 (d + 1) (nI d) (zr_up dnum d 4 (nI att)) (zr_up dnam d 0 spl) nr nnum nnam (zs_zm_rd2 tx size flt plc pp tok att spl val aPar aTpl aTit d tw).2.2.1)) := by
  rcases h with ⟨p, hp, he⟩ | ⟨ppx, tokx, splx, valx, hm0, hc, hu⟩
  · obtain ⟨e1, e2⟩ := zq_end_pos he
    simp only [zs_zm_rd2, if_pos e1, zs_zm_rd2_1, zq_mustQ e2, if_neg e2]
    exact ⟨trivial, trivial, trivial, Or.inl ⟨p, hp, he⟩⟩
  · obtain ⟨q1, q2, q3⟩ := zq_Cn hb hc (by decide) hu
    rcases q3 with ⟨rfl, hq⟩ | ⟨rfl, rfl, rfl, rfl, he, ow, ty, i1, i2, -⟩ | ⟨rfl, rfl, h4, hlt, token, name, word, value, dc, nc, wa, t3, t2, ow, sp, ty, i1, i2, hto⟩
    · simp only [zs_zm_rd2, zs_zm_rd2_1, zq_mustQ (show ¬ (1 : Int32) = 0 by decide)]
      exact ⟨rfl, rfl, rfl, Or.inl hq⟩
    · simp only [zs_zm_rd2, zs_zm_rd2_5, ow, zq_must4]
      exact ⟨rfl, rfl, rfl, Or.inl ⟨_, rfl, he (by decide)⟩⟩
    · by_cases hf : zp_isFreeName token word = true
      · have e4 := sp (zq_free4 hf)
        subst e4
        have hdup : zp_dupF (fun k => zr_nam 9 (d + 1) dnam (nI k) 0) spl (nI d).toNatClampNeg 0 = tw := by
          rw [htw, zq_cl (by omega), Nat.sub_zero]
          refine (zq_rdl spl aTit _ d 0 ?_).symm
          intro j _ hj
          rw [← hT j (by omega)]
          exact zq_nam_ (c := 0) (by omega) (by omega) (by omega) (by omega) dnam
        rw [hf] at ow
        cases tw
        · have e1 : zr_set 13 (d + 1) dnum (nI d) 4 (nI att) = zr_up dnum d 4 (nI att) := zq_s13 (c := 4) (by omega) (by omega) (by omega) dnum _
          have e2 : zr_set 9 (d + 1) dnam (nI d) 0 spl = zr_up dnam d 0 spl := zq_set (c := 0) (by omega) (by omega) (by omega) (by omega) dnam _
          have := hto true (d + 1) dc (zr_up dnum d 4 (nI att)) (zr_up dnam d 0 spl) nr nc nnum nnam 3 (nI d) (by simp [zp_takesOutside, zp_takesTitle, hf, hdup, e1, e2])
          have hc3 := this.1 rfl
          simp only [zs_zm_rd2, ow, zs_zm_rd2_13, zq_mustT size plc h4 att]
          generalize hu2 : zm_next tx size 0 plc pp tok spl val = u2
          obtain ⟨f2, plc2, pp2, tok2, att2, spl2, val2⟩ := u2
          obtain ⟨k1, k2, k3⟩ := zq_Cn hb hc3 (by decide) hu2.symm
          rcases k3 with ⟨rfl, hq⟩ | ⟨rfl, rfl, rfl, rfl, he, -⟩ | ⟨rfl, rfl, h42, hlt2, token2, name2, word2, value2, dc2, nc2, wa2, t32, t22, ow2, sp2, ty2, i12, i22, hto2⟩
          · by_cases g : tok2 = 0
            · simp only [zs_zm_rd2_14, g, zs_zm_rd2_16, zq_mustQ (show ¬ (1 : Int32) = 0 by decide)]
              exact ⟨rfl, rfl, rfl, Or.inl hq⟩
            · simp only [zs_zm_rd2_14, if_neg g, zs_zm_rd2_15, zq_mustQ (show ¬ (1 : Int32) = 0 by decide)]
              exact ⟨rfl, rfl, rfl, Or.inl hq⟩
          · simp only [zs_zm_rd2_14, zs_zm_rd2_15, zq_must4]
            exact ⟨rfl, rfl, rfl, Or.inl ⟨_, rfl, he (by decide)⟩⟩
          · by_cases g : token2 = 2
            · have := hto2 true (d + 1) dc2 (zr_up dnum d 4 (nI att)) (zr_up dnam d 0 spl) nr nc2 nnum nnam 4 (nI d) (by simp [zp_takesOutside, zp_passes, g])
              have e0 := t22.1 g
              subst e0
              simp only [zs_zm_rd2_14, zs_zm_rd2_16, zq_mustT size plc2 (show ¬ (0 : Int32) = 4 by decide) att2]
              exact ⟨rfl, rfl, rfl, Or.inr ⟨rfl, rfl, by show m0 < pp2; omega, this.1 rfl⟩⟩
            · have := hto2 false (d + 1) dc2 (zr_up dnum d 4 (nI att)) (zr_up dnam d 0 spl) nr nc2 nnum nnam 3 (nI d) (by simp [zp_takesOutside, zp_passes, g])
              have e0 : ¬ tok2 = 0 := fun k => g (t22.2 k)
              simp only [zs_zm_rd2_14, if_neg e0, zs_zm_rd2_15, zq_mustF size plc2 h42 att2]
              exact ⟨rfl, rfl, rfl, Or.inl ⟨_, rfl, this.2 rfl⟩⟩
        · have := hto false (d + 1) dc dnum dnam nr nc nnum nnam 2 (nI d) (by simp [zp_takesOutside, zp_takesTitle, hf, hdup])
          simp only [zs_zm_rd2, ow, zs_zm_rd2_9, zq_mustF size plc h4 att]
          exact ⟨rfl, rfl, rfl, Or.inl ⟨_, rfl, this.2 rfl⟩⟩
      · have hff : zp_isFreeName token word = false := by simpa using hf
        have := hto false (d + 1) dc dnum dnam nr nc nnum nnam 2 (nI d) (by simp [zp_takesOutside, zp_takesTitle, hf])
        rw [hff] at ow
        simp only [zs_zm_rd2, ow, zs_zm_rd2_5, zq_mustF size plc h4 att]
        exact ⟨rfl, rfl, rfl, Or.inl ⟨_, rfl, this.2 rfl⟩⟩
end
section
variable {tx : Nat → Nat} {size : Nat}
variable {c0 : zp_L} {dnum : Nat → Nat → Int32} {dnam : Nat → Nat → Int64} {nr : Nat} {nnum : Nat → Nat → Int32} {nnam : Nat → Nat → Int64} {pp : Nat} {flt plc tok : Int32} {att : Nat} {spl : Int64} {val : Int32} {d q : Nat} {aChg aPar aTpl aTyp aFst : Nat → Int32} {aTit aPnm : Nat → Int64} {aPty : Nat → Int32}
theorem zq_tyr {token word : Int32} (h : ¬ zp_typeHere token word = -1) : ∃ t, t < 4 ∧ zp_typeHere token word = nI t := by
  rw [zp_typeHere] at *
  generalize zp_wordHere token word = w at *
  by_cases h1 : w = 16
  · rw [if_pos h1]; exact ⟨2, by omega, rfl⟩
  · rw [if_neg h1] at *
    by_cases h2 : w = 17
    · rw [if_pos h2]; exact ⟨3, by omega, rfl⟩
    · rw [if_neg h2] at *
      by_cases h3 : w = 21
      · rw [if_pos h3]; exact ⟨0, by omega, rfl⟩
      · rw [if_neg h3] at *
        by_cases h4 : w = 22
        · rw [if_pos h4]; exact ⟨1, by omega, rfl⟩
        · rw [if_neg h4] at h; exact absurd rfl h
theorem zq_tyn {token word : Int32} : (zp_typeHere token word < 0) ↔ zp_typeHere token word = -1 := by
  constructor
  · intro g
    by_cases h : zp_typeHere token word = -1
    · exact h
    · obtain ⟨t, t1, t2⟩ := zq_tyr h
      rw [t2] at g; exact absurd g (zq_nn (by omega))
  · intro g; rw [g]; decide
theorem zq_LP (hb : ∀ k, k < size → tx k < 256) (hd : d < 64) (hq8 : q < 8) (h4 : ¬ tok = 4) (hDp : zq_Dp dnum dnam aChg aPar aTpl aTit aPnm aPty d q) (h : zq_CO tx size c0 5 (d + 1) (nI d) dnum dnam nr nnum nnam pp) {r : Int32 × Int32 × Nat × Int32 × Nat × Int64 × Int32 × (Nat → Int32) × (Nat → Int64) × (Nat → Int32)} (hr : zm_readParameter tx size 0 plc pp tok att spl val aPar aPnm aPty d q = r) :
    (zq_Q tx size c0 r.1 r.2.1 ∧ (∀ k, k < d → r.2.2.2.2.2.2.2.1 k = aPar k) ∧ (∃ q', q' ≤ 8 ∧ r.2.2.2.2.2.2.2.1 d = nI q')) ∨
    (r.1 = 0 ∧ r.2.1 = plc ∧ pp < r.2.2.1 ∧ ∃ (nm : Int64) (t : Int32), r.2.2.2.2.2.2.2.1 = upd aPar d (nI (q + 1)) ∧ r.2.2.2.2.2.2.2.2.1 = vp_updL aPnm (8 * d + q) nm ∧ r.2.2.2.2.2.2.2.2.2 = upd aPty (8 * d + q) t ∧
      zq_CO tx size c0 4 (d + 1) (nI d) (zr_up (zr_up dnum d (5 + q) t) d 2 (nI (q + 1))) (zr_up dnam d (1 + q) nm) nr nnum nnam r.2.2.1) := by
  obtain ⟨x1, x2, x3, x4, x5, x6, x7, x8, x9⟩ := hDp
  have n2 : zr_num 13 (d + 1) dnum (nI d) 2 = nI q := (zq_n13 (c := 2) (by omega) (by omega) (by omega) dnum).trans x4
  have hA : (∀ k, k < d → aPar k = aPar k) ∧ (∃ q', q' ≤ 8 ∧ aPar d = nI q') := ⟨fun _ _ => rfl, q, by omega, x5⟩
  rw [zm_readParameter, if_neg (by omega), zq_mustT size plc h4 att, zm_readParameter_7] at hr
  dsimp only at hr
  generalize hu : zm_next tx size 0 plc pp tok spl val = u at hr
  obtain ⟨f1, plc1, pp1, tok1, att1, spl1, val1⟩ := u
  obtain ⟨q1, q2, q3⟩ := zq_Cn hb h (by decide) hu.symm
  rcases q3 with ⟨rfl, hq⟩ | ⟨rfl, rfl, rfl, rfl, he, ow, ty, i1, i2, -⟩ | ⟨rfl, rfl, h41, hlt, token, name, word, value, dc, nc, wa, t3, t2, ow, sp, ty, i1, i2, hto⟩
  · simp only [zm_readParameter_8, zm_readParameter_9, zq_mustQ (show ¬ (1 : Int32) = 0 by decide)] at hr
    subst hr
    exact Or.inl ⟨hq, hA⟩
  · simp only [zm_readParameter_8, zm_readParameter_32, ow, zq_must4] at hr
    subst hr
    exact Or.inl ⟨⟨_, rfl, he (by decide)⟩, hA⟩
  · by_cases hf : zp_isFreeName token word = true
    · have e4 := sp (zq_free4 hf)
      subst e4
      have hdup : zp_dupF (fun k => zr_nam 9 (d + 1) dnam (nI d) (1 + nI k)) spl1 (zr_num 13 (d + 1) dnum (nI d) 2).toNatClampNeg 0 = (zl_zm_rpl spl1 aPnm d (q - 0) false 0).1 := by
        rw [n2, zq_cl (by omega), Nat.sub_zero]
        refine (zq_rpl spl1 aPnm d _ q 0 ?_).symm
        intro j _ hj
        rw [← (x8 j (by omega)).1]
        have e : (1 : Int32) + nI j = nI (1 + j) := zq_add 1 j
        show zr_nam 9 (d + 1) dnam (nI d) (1 + nI j) = _
        rw [e]
        exact zq_nam_ (by omega) (by omega) (by omega) (by omega) dnam
      rw [hf] at ow
      by_cases hdp : (zl_zm_rpl spl1 aPnm d (q - 0) false 0).1 = true
      · have hd1 := hdup.trans hdp
        have := hto false (d + 1) dc dnum dnam nr nc nnum nnam 5 (nI d) (by simp [zp_takesOutside, zp_takesParameter, hf, hd1])
        simp only [zm_readParameter_8, zm_readParameter_55, ow, hdp, zq_mustF size plc1 h41 att1] at hr
        subst hr
        exact Or.inl ⟨⟨_, rfl, this.2 rfl⟩, hA⟩
      · have e2 : zr_set 9 (d + 1) dnam (nI d) (1 + zr_num 13 (d + 1) dnum (nI d) 2) spl1 = zr_up dnam d (1 + q) spl1 := by
          rw [n2, show (1 : Int32) + nI q = nI (1 + q) from zq_add 1 q]
          exact zq_set (by omega) (by omega) (by omega) (by omega) dnam _
        have hd1 := hdup.trans (Bool.eq_false_iff.2 hdp)
        have := hto true (d + 1) dc dnum (zr_up dnam d (1 + q) spl1) nr nc nnum nnam 6 (nI d) (by simp [zp_takesOutside, zp_takesParameter, hf, hd1, e2])
        have hc6 := this.1 rfl
        simp only [zm_readParameter_8, zm_readParameter_78, ow, if_neg hdp, zq_mustT size plc1 h41 att1] at hr
        generalize hu2 : zm_next tx size 0 plc1 pp1 tok1 spl1 val1 = u2 at hr
        obtain ⟨f2, plc2, pp2, tok2, att2, spl2, val2⟩ := u2
        obtain ⟨k1, k2, k3⟩ := zq_Cn hb hc6 (by decide) hu2.symm
        have hA2 : (∀ k, k < d → upd aPar d (nI (q + 1)) k = aPar k) ∧ (∃ q', q' ≤ 8 ∧ upd aPar d (nI (q + 1)) d = nI q') := ⟨fun k hk => zq_u_ne (by omega), q + 1, by omega, zq_u_eq⟩
        rcases k3 with ⟨rfl, hq⟩ | ⟨rfl, rfl, rfl, rfl, he, ow2, ty2, -⟩ | ⟨rfl, rfl, h42, hlt2, token2, name2, word2, value2, dc2, nc2, wa2, t32, t22, ow2, sp2, ty2, i12, i22, hto2⟩
        · simp only [zm_readParameter_79, zm_readParameter_80, zq_mustQ (show ¬ (1 : Int32) = 0 by decide)] at hr
          subst hr
          exact Or.inl ⟨hq, hA2⟩
        · simp only [zm_readParameter_79, zm_readParameter_87, ty2, zq_must4] at hr
          subst hr
          exact Or.inl ⟨⟨_, rfl, he (by decide)⟩, hA2⟩
        · by_cases htn : zp_typeHere token2 word2 = -1
          · have := hto2 false (d + 1) dc2 dnum (zr_up dnam d (1 + q) spl1) nr nc2 nnum nnam 6 (nI d) (by simp [zp_takesOutside, zp_takesParameterType, htn])
            rw [htn] at ty2
            simp only [zm_readParameter_79, zm_readParameter_87, ty2, zq_mustF size plc2 h42 att2] at hr
            subst hr
            exact Or.inl ⟨⟨_, rfl, this.2 rfl⟩, hA2⟩
          · have e3 : zr_set 13 (d + 1) (zr_set 13 (d + 1) dnum (nI d) (5 + zr_num 13 (d + 1) dnum (nI d) 2) (zp_typeHere token2 word2)) (nI d) 2 (zr_num 13 (d + 1) dnum (nI d) 2 + 1) = zr_up (zr_up dnum d (5 + q) (zp_typeHere token2 word2)) d 2 (nI (q + 1)) := by
              rw [n2, show (5 : Int32) + nI q = nI (5 + q) from zq_add 5 q, zq_s13 (by omega) (by omega) (by omega), show nI q + 1 = nI (q + 1) from zq_add q 1]
              exact zq_s13 (c := 2) (by omega) (by omega) (by omega) _ _
            have := hto2 true (d + 1) dc2 (zr_up (zr_up dnum d (5 + q) (zp_typeHere token2 word2)) d 2 (nI (q + 1))) (zr_up dnam d (1 + q) spl1) nr nc2 nnum nnam 7 (nI d) (by simp [zp_takesOutside, zp_takesParameterType, htn, e3])
            have hc7 := this.1 rfl
            have htn2 : ¬ zp_typeHere token2 word2 < 0 := fun g => htn (zq_tyn.1 g)
            simp only [zm_readParameter_79, ty2, if_neg htn2, zm_readParameter_94, zq_mustT size plc2 h42 att2] at hr
            generalize hu3 : zm_next tx size 0 plc2 pp2 tok2 spl2 val2 = u3 at hr
            obtain ⟨f3, plc3, pp3, tok3, att3, spl3, val3⟩ := u3
            obtain ⟨m1, m2, m3⟩ := zq_Cn hb hc7 (by decide) hu3.symm
            rcases m3 with ⟨rfl, hq⟩ | ⟨rfl, rfl, rfl, rfl, he, -⟩ | ⟨rfl, rfl, h43, hlt3, token3, name3, word3, value3, dc3, nc3, wa3, t33, t23, ow3, sp3, ty3, i13, i23, hto3⟩
            · by_cases g : tok3 = 1
              · simp only [zm_readParameter_95, g, zm_readParameter_97, zq_mustQ (show ¬ (1 : Int32) = 0 by decide)] at hr
                subst hr
                exact Or.inl ⟨hq, hA2⟩
              · simp only [zm_readParameter_95, if_neg g, zm_readParameter_96, zq_mustQ (show ¬ (1 : Int32) = 0 by decide)] at hr
                subst hr
                exact Or.inl ⟨hq, hA2⟩
            · simp only [zm_readParameter_95, zm_readParameter_96, zq_must4] at hr
              subst hr
              exact Or.inl ⟨⟨_, rfl, he (by decide)⟩, hA2⟩
            · by_cases g : token3 = 3
              · have := hto3 true (d + 1) dc3 (zr_up (zr_up dnum d (5 + q) (zp_typeHere token2 word2)) d 2 (nI (q + 1))) (zr_up dnam d (1 + q) spl1) nr nc3 nnum nnam 4 (nI d) (by simp [zp_takesOutside, zp_passes, g])
                have e0 := t33.1 g
                subst e0
                simp only [zm_readParameter_95, zm_readParameter_97, ty2, zq_mustT size plc3 (show ¬ (1 : Int32) = 4 by decide) att3] at hr
                subst hr
                exact Or.inr ⟨rfl, rfl, by show pp < pp3; omega, spl1, zp_typeHere token2 word2, rfl, rfl, rfl, this.1 rfl⟩
              · have := hto3 false (d + 1) dc3 (zr_up (zr_up dnum d (5 + q) (zp_typeHere token2 word2)) d 2 (nI (q + 1))) (zr_up dnam d (1 + q) spl1) nr nc3 nnum nnam 7 (nI d) (by simp [zp_takesOutside, zp_passes, g])
                have e0 : ¬ tok3 = 1 := fun k => g (t33.2 k)
                simp only [zm_readParameter_95, if_neg e0, zm_readParameter_96, zq_mustF size plc3 h43 att3] at hr
                subst hr
                exact Or.inl ⟨⟨_, rfl, this.2 rfl⟩, hA2⟩
    · have hff : zp_isFreeName token word = false := by simpa using hf
      have := hto false (d + 1) dc dnum dnam nr nc nnum nnam 5 (nI d) (by simp [zp_takesOutside, zp_takesParameter, hf])
      rw [hff] at ow
      simp only [zm_readParameter_8, zm_readParameter_32, ow, zq_mustF size plc1 h41 att1] at hr
      subst hr
      exact Or.inl ⟨⟨_, rfl, this.2 rfl⟩, hA⟩
theorem zq_LP8 (h4 : ¬ tok = 4) {r : Int32 × Int32 × Nat × Int32 × Nat × Int64 × Int32 × (Nat → Int32) × (Nat → Int64) × (Nat → Int32)} (hq : 8 ≤ q) (hr : zm_readParameter tx size 0 plc pp tok att spl val aPar aPnm aPty d q = r) : r.1 = 2 ∧ r.2.1 = nI att ∧ r.2.2.2.2.2.2.2.1 = aPar := by
  rw [zm_readParameter, if_pos hq, zq_mustF size plc h4 att, zm_readParameter_1] at hr
  dsimp only at hr
  have hf := zq_nf (tx := tx) (size := size) (flt := 2) (plc := nI att) (pp := pp) (tok := tok) (spl := spl) (val := val) (by decide)
  generalize zm_next tx size 2 (nI att) pp tok spl val = u at hf hr
  obtain ⟨f1, plc1, pp1, tok1, att1, spl1, val1⟩ := u
  obtain ⟨g1, g2⟩ := hf
  simp only at g1 g2
  subst g1; subst g2
  simp only [zm_readParameter_2, zm_readParameter_3, zq_mustQ (show ¬ (2 : Int32) = 0 by decide)] at hr
  subst hr
  exact ⟨rfl, rfl, rfl⟩
theorem zq_L4 (hb : ∀ k, k < size → tx k < 256) (hd : d < 64) (hDp : zq_Dp dnum dnam aChg aPar aTpl aTit aPnm aPty d q) (h : zq_CO tx size c0 8 (d + 1) (nI d) dnum dnam nr nnum nnam pp) {r : Int32 × Int32 × Nat × Int32 × Nat × Int64 × Int32 × Int32 × (Nat → Int32) × (Nat → Int32)} (hr : zs_zm_rd3 tx size 0 plc pp tok att spl val nr aChg aTyp aPar aFst d = r) :
    r.2.2.2.2.2.2.2.1 = nI q ∧ r.2.2.2.2.2.2.2.2.2 = upd aFst d (nI nr) ∧
    (zq_Q tx size c0 r.1 r.2.1 ∨
     (r.1 = 0 ∧ r.2.1 = plc ∧ pp < r.2.2.1 ∧ ∃ t : Int32, r.2.2.2.2.2.2.2.2.1 = upd aTyp d t ∧ zq_CO tx size c0 9 (d + 1) (nI d) (zr_up (zr_up dnum d 1 t) d 3 (nI nr)) dnam nr nnum nnam r.2.2.1)) := by
  obtain ⟨x1, x2, x3, x4, x5, x6, x7, x8, x9⟩ := hDp
  have n0 : zr_num 13 (d + 1) dnum (nI d) 0 = aChg d := (zq_n13 (c := 0) (by omega) (by omega) (by omega) dnum).trans x2
  rw [zs_zm_rd3, if_pos rfl] at hr
  generalize hu : zm_next tx size 0 plc pp tok spl val = u at hr
  obtain ⟨f1, plc1, pp1, tok1, att1, spl1, val1⟩ := u
  obtain ⟨q1, q2, q3⟩ := zq_Cn hb h (by decide) hu.symm
  rcases q3 with ⟨rfl, hq⟩ | ⟨rfl, rfl, rfl, rfl, he, ow, ty, i1, i2, -⟩ | ⟨rfl, rfl, h41, hlt, token, name, word, value, dc, nc, wa, t3, t2, ow, sp, ty, i1, i2, hto⟩
  · simp only [zs_zm_rd3_1, zs_zm_rd3_2, zq_mustQ (show ¬ (1 : Int32) = 0 by decide)] at hr
    subst hr
    exact ⟨x5, rfl, Or.inl hq⟩
  · simp only [zs_zm_rd3_1, zs_zm_rd3_3, ty, zq_must4] at hr
    subst hr
    exact ⟨x5, rfl, Or.inl ⟨_, rfl, he (by decide)⟩⟩
  · by_cases htn : zp_typeHere token word = -1
    · have := hto false (d + 1) dc dnum dnam nr nc nnum nnam 8 (nI d) (by simp [zp_takesOutside, zp_takesType, htn])
      rw [htn] at ty
      simp only [zs_zm_rd3_1, zs_zm_rd3_3, ty, zq_mustF size plc1 h41 att1] at hr
      subst hr
      exact ⟨x5, rfl, Or.inl ⟨_, rfl, this.2 rfl⟩⟩
    · have htn2 : ¬ zp_typeHere token word < 0 := fun g => htn (zq_tyn.1 g)
      obtain ⟨t, ht4, hte⟩ := zq_tyr htn
      have e3 : zr_set 13 (d + 1) (zr_set 13 (d + 1) dnum (nI d) 1 (zp_typeHere token word)) (nI d) 3 (nI nr) = zr_up (zr_up dnum d 1 (zp_typeHere token word)) d 3 (nI nr) := by
        rw [show zr_set 13 (d + 1) dnum (nI d) 1 (zp_typeHere token word) = zr_up dnum d 1 (zp_typeHere token word) from zq_s13 (c := 1) (by omega) (by omega) (by omega) _ _]
        exact zq_s13 (c := 3) (by omega) (by omega) (by omega) _ _
      rcases x3 with x3 | x3
      · have hch : ¬ aChg d = 1 := by rw [x3]; decide
        have := hto true (d + 1) dc (zr_up (zr_up dnum d 1 (zp_typeHere token word)) d 3 (nI nr)) dnam nr nc nnum nnam 9 (nI d) (by simp [zp_takesOutside, zp_takesType, htn, e3, zp_isChange, n0, hch])
        simp only [zs_zm_rd3_1, ty, if_neg htn2, x3, zs_zm_rd3_4, zq_mustT size plc1 h41 att1] at hr
        subst hr
        exact ⟨x5, rfl, Or.inr ⟨rfl, rfl, hlt, _, rfl, this.1 rfl⟩⟩
      · have hch : ¬ aChg d = 0 := by rw [x3]; decide
        by_cases h2 : 2 ≤ zp_typeHere token word
        · have h2n : ¬ zp_typeHere token word ≤ 1 := by
            rw [hte] at *
            intro g
            have a1 := (zq_le (n := 1) (by omega) (by omega)).1 g
            have a2 := (zq_le (m := 2) (by omega) (by omega)).1 h2
            omega
          have := hto false (d + 1) dc dnum dnam nr nc nnum nnam 8 (nI d) (by simp [zp_takesOutside, zp_takesType, htn, h2n, zp_isChange, n0, x3])
          simp only [zs_zm_rd3_1, ty, if_neg htn2, if_neg hch, if_pos h2, zs_zm_rd3_5, zq_mustF size plc1 h41 att1] at hr
          subst hr
          exact ⟨x5, rfl, Or.inl ⟨_, rfl, this.2 rfl⟩⟩
        · have h2n : zp_typeHere token word ≤ 1 := by
            rw [hte] at *
            refine (zq_le (n := 1) (by omega) (by omega)).2 ?_
            by_cases g : t ≤ 1
            · exact g
            · exact absurd ((zq_le (m := 2) (by omega) (by omega)).2 (by omega)) h2
          have := hto true (d + 1) dc (zr_up (zr_up dnum d 1 (zp_typeHere token word)) d 3 (nI nr)) dnam nr nc nnum nnam 9 (nI d) (by simp [zp_takesOutside, zp_takesType, htn, h2n, e3])
          simp only [zs_zm_rd3_1, ty, if_neg htn2, if_neg hch, if_neg h2, zs_zm_rd3_6, zq_mustT size plc1 h41 att1] at hr
          subst hr
          exact ⟨x5, rfl, Or.inr ⟨rfl, rfl, hlt, _, rfl, this.1 rfl⟩⟩
theorem zq_L5 (hb : ∀ k, k < size → tx k < 256) {stg : Int32} (hst : stg = 13) (hdr : Nat) (hla : Int32) (h : zq_CO tx size c0 stg hdr hla dnum dnam nr nnum nnam pp) {r : Int32 × Int32 × Nat × Int32 × Nat × Int64 × Int32} (hr : zs_zm_rd5 tx size 0 plc pp tok att spl val = r) :
    zq_Q tx size c0 r.1 r.2.1 ∨ (r.1 = 0 ∧ r.2.1 = plc ∧ pp < r.2.2.1 ∧ zq_CO tx size c0 0 hdr hla dnum dnam nr nnum nnam r.2.2.1) := by
  subst hst
  rw [zs_zm_rd5, if_pos rfl] at hr
  generalize hu : zm_next tx size 0 plc pp tok spl val = u at hr
  obtain ⟨f1, plc1, pp1, tok1, att1, spl1, val1⟩ := u
  obtain ⟨q1, q2, q3⟩ := zq_Cn hb h (by decide) hu.symm
  rcases q3 with ⟨rfl, hq⟩ | ⟨rfl, rfl, rfl, rfl, he, ow, ty, i1, i2, -⟩ | ⟨rfl, rfl, h41, hlt, token, name, word, value, dc, nc, wa, t3, t2, ow, sp, ty, i1, i2, hto⟩
  · by_cases g : tok1 = 1
    · simp only [zs_zm_rd5_1, g, zs_zm_rd5_3, zq_mustQ (show ¬ (1 : Int32) = 0 by decide)] at hr
      subst hr
      exact Or.inl hq
    · simp only [zs_zm_rd5_1, if_neg g, zs_zm_rd5_2, zq_mustQ (show ¬ (1 : Int32) = 0 by decide)] at hr
      subst hr
      exact Or.inl hq
  · simp only [zs_zm_rd5_1, zs_zm_rd5_2, zq_must4] at hr
    subst hr
    exact Or.inl ⟨_, rfl, he (by decide)⟩
  · by_cases g : token = 3
    · have := hto true hdr dc dnum dnam nr nc nnum nnam 0 hla (by simp [zp_takesOutside, zp_passes, g])
      have e0 := t3.1 g
      subst e0
      simp only [zs_zm_rd5_1, zs_zm_rd5_3, zq_mustT size plc1 (show ¬ (1 : Int32) = 4 by decide) att1] at hr
      subst hr
      exact Or.inr ⟨rfl, rfl, hlt, this.1 rfl⟩
    · have := hto false hdr dc dnum dnam nr nc nnum nnam 13 hla (by simp [zp_takesOutside, zp_passes, g])
      have e0 : ¬ tok1 = 1 := fun k => g (t3.2 k)
      simp only [zs_zm_rd5_1, if_neg e0, zs_zm_rd5_2, zq_mustF size plc1 h41 att1] at hr
      subst hr
      exact Or.inl ⟨_, rfl, this.2 rfl⟩
end
