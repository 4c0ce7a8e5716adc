def zq_stk (aDue aDof : Nat → Int32) : List (Nat × Int32) → Nat → Prop
  | [], d => d = 0
  | (w, o) :: l, d => ∃ e, d = e + 1 ∧ aDue e = nI w ∧ aDof e = o ∧ zq_stk aDue aDof l e
theorem zq_stk_c {aDue aDof aDue' aDof' : Nat → Int32} : ∀ (l : List (Nat × Int32)) (d : Nat), (∀ i, i < d → aDue' i = aDue i ∧ aDof' i = aDof i) → zq_stk aDue aDof l d → zq_stk aDue' aDof' l d := by
  intro l
  induction l with
  | nil => intro d _ h; exact h
  | cons x l ih =>
    intro d hc h
    obtain ⟨w, o⟩ := x
    obtain ⟨e, h1, h2, h3, h4⟩ := h
    subst h1
    have := hc e (by omega)
    exact ⟨e, rfl, by rw [this.1]; exact h2, by rw [this.2]; exact h3, ih e (fun i hi => hc i (by omega)) h4⟩
def zq_pu (l : List (Nat × Int32)) (u : Nat × (Nat → Int32) × (Nat → Int32)) : Prop := zq_stk u.2.1 u.2.2 l u.1
theorem zq_nar : ∀ w : Nat, w < 11 → vp_nar .byte (nI w).toInt8.toInt32 = nI w := by
  intro w hw
  have : w = 0 ∨ w = 1 ∨ w = 2 ∨ w = 3 ∨ w = 4 ∨ w = 5 ∨ w = 6 ∨ w = 7 ∨ w = 8 ∨ w = 9 ∨ w = 10 := by omega
  rcases this with rfl | rfl | rfl | rfl | rfl | rfl | rfl | rfl | rfl | rfl | rfl <;> rfl
theorem zq_push {l : List (Nat × Int32)} {u : Nat × (Nat → Int32) × (Nat → Int32)} (w : Nat) (hw : w < 11) (o : Int32) (h : zq_pu l u) : zq_pu ((w, o) :: l) (zm_push u.1 u.2.1 u.2.2 (nI w) o) := by
  obtain ⟨d, a, b⟩ := u
  refine ⟨d, rfl, ?_, ?_, ?_⟩
  · show upd a d _ d = _
    rw [upd, if_pos rfl]; exact zq_nar w hw
  · show upd b d o d = o
    rw [upd, if_pos rfl]
  · refine zq_stk_c l d ?_ h
    intro i hi
    exact ⟨if_neg (by omega), if_neg (by omega)⟩
def zq_last (k : Nat) : Nat := if k < 18 then 1 else 2
def zq_sil (k s : Nat) : Nat := if k = 11 ∨ k = 21 then (if s = 2 then 10 else if s = 3 then 8 else 0) else if k = 12 ∨ k = 22 then (if s = 6 then 8 else 0) else if k = 18 then (if s = 3 then 8 else 0) else 0
def zq_mn (k s : Nat) : List Nat :=
  if k = 10 ∨ k = 20 then [1, zq_last k, zq_last k, 3].drop s
  else if k = 11 ∨ k = 21 then (if s = 0 then [5, zq_last k, 8, 3] else if s = 1 then [1, 10, zq_last k, 8, 3] else if s = 2 then [zq_last k, 8, 3] else [3])
  else if k = 12 ∨ k = 22 then (if s < 6 then [1, zq_last k, 4, 5, 6, zq_last k, 8, 3, 3].drop s else if s = 6 then [3, 3] else [3])
  else if k = 14 ∨ k = 15 ∨ k = 23 then (if s = 0 then [9, 7, 3] else [7, 3])
  else if k = 16 ∨ k = 17 then [2, 3].drop s
  else if k = 18 then (if s < 3 then [1, 5, 2, 8, 3].drop s else [3])
  else if k = 19 then [1, 3].drop s
  else [1, 1, 3].drop s
def zq_rem (k s : Nat) : List Nat := if zq_sil k s = 0 then zq_mn k s else zq_sil k s :: zq_mn k s
def zq_pre (k s : Nat) : Nat := if k = 11 ∨ k = 21 then (if s = 3 then 1 else 0) else if k = 12 ∨ k = 22 then (if s = 4 then 1 else if s = 5 then 2 else if s = 6 then 2 else 0) else if k = 18 then (if s = 2 then 1 else if s = 3 then 1 else 0) else 0
def zq_post (k s : Nat) : Nat := if k = 11 ∨ k = 21 then (if s = 2 then 1 else 0) else if k = 12 ∨ k = 22 then (if s = 4 then 1 else if s = 5 then 2 else 0) else if k = 18 then (if s = 2 then 1 else 0) else 0
def zq_mx (k s : Nat) : Nat := if k = 11 ∨ k = 21 then (if 1 ≤ s then 1 else 0) else if k = 12 ∨ k = 22 then (if 5 ≤ s then 2 else if 4 ≤ s then 1 else 0) else if k = 18 then (if 2 ≤ s then 1 else 0) else 0
def zq_len (k : Nat) : Nat := zz_sl.getD (zp_shape (nI k)) 0
def zq_ch (k s : Nat) : Int32 := if s < zq_len k then zs_ch (zp_shape (nI k)) s else 46
def zq_okb (k s : Nat) : Bool := decide (3 ≤ k) && decide (k < 24) && decide (s ≤ zq_len k) && (decide (s ≤ 1) || !(k == 14 || k == 15 || k == 23))
abbrev zq_ok (k s : Nat) : Prop := zq_okb k s = true
theorem zq_len8 : ∀ k : Nat, k < 24 → zq_len k < 8 := by decide +kernel
theorem zq_ok8 {k s : Nat} (h : zq_ok k s) : s < 8 ∧ k < 24 := by
  simp only [zq_ok, zq_okb, Bool.and_eq_true, decide_eq_true_eq] at h
  have := zq_len8 k h.1.1.2
  exact ⟨by have := h.1.2; omega, h.1.1.2⟩
theorem zq_tE_0 : ∀ k : Nat, k < 24 → ∀ s : Nat, s < 8 → zq_ok k s → (zq_ch k s = 69 ∨ zq_ch k s = 101) → zq_mn k s = 1 :: zq_rem k (s + 1) := by decide +kernel
theorem zq_tE_1 : ∀ k : Nat, k < 24 → ∀ s : Nat, s < 8 → zq_ok k s → (zq_ch k s = 69 ∨ zq_ch k s = 101) → zq_ok k (s + 1) := by decide +kernel
theorem zq_tE_2 : ∀ k : Nat, k < 24 → ∀ s : Nat, s < 8 → zq_ok k s → (zq_ch k s = 69 ∨ zq_ch k s = 101) → zq_pre k (s + 1) = zq_post k s := by decide +kernel
theorem zq_tE_3 : ∀ k : Nat, k < 24 → ∀ s : Nat, s < 8 → zq_ok k s → (zq_ch k s = 69 ∨ zq_ch k s = 101) → zq_post k s ≤ zq_mx k s := by decide +kernel
theorem zq_tE_4 : ∀ k : Nat, k < 24 → ∀ s : Nat, s < 8 → zq_ok k s → (zq_ch k s = 69 ∨ zq_ch k s = 101) → zq_mx k (s + 1) = zq_mx k s := by decide +kernel
theorem zq_tE : ∀ k : Nat, k < 24 → ∀ s : Nat, s < 8 → zq_ok k s → ((zq_ch k s = 69 ∨ zq_ch k s = 101) → zq_mn k s = 1 :: zq_rem k (s + 1) ∧ zq_ok k (s + 1) ∧ zq_pre k (s + 1) = zq_post k s ∧ zq_post k s ≤ zq_mx k s ∧ zq_mx k (s + 1) = zq_mx k s) := fun k hk s hs ho h => ⟨zq_tE_0 k hk s hs ho h, zq_tE_1 k hk s hs ho h, zq_tE_2 k hk s hs ho h, zq_tE_3 k hk s hs ho h, zq_tE_4 k hk s hs ho h⟩
theorem zq_tEu_0 : ∀ k : Nat, k < 24 → ∀ s : Nat, s < 8 → zq_ok k s → (zq_ch k s = 69) → zq_post k s = 0 := by decide +kernel
theorem zq_tEu : ∀ k : Nat, k < 24 → ∀ s : Nat, s < 8 → zq_ok k s → ((zq_ch k s = 69) → zq_post k s = 0) := fun k hk s hs ho h => zq_tEu_0 k hk s hs ho h
theorem zq_tEl_0 : ∀ k : Nat, k < 24 → ∀ s : Nat, s < 8 → zq_ok k s → (zq_ch k s = 101) → zq_post k s = (if k = 12 ∨ k = 22 then 2 else 1) := by decide +kernel
theorem zq_tEl_1b : ∀ k : Nat, k < 24 → ∀ s : Nat, s < 8 → zq_ok k s → decide (zq_ch k s = 101 ∧ (k = 12 ∨ k = 22)) = true → 5 ≤ s := by decide +kernel
theorem zq_tEl_1 : ∀ k : Nat, k < 24 → ∀ s : Nat, s < 8 → zq_ok k s → (zq_ch k s = 101) → ((k = 12 ∨ k = 22) → 5 ≤ s) := fun k hk s hs ho h g => zq_tEl_1b k hk s hs ho (decide_eq_true ⟨h, g⟩)
theorem zq_tEl : ∀ k : Nat, k < 24 → ∀ s : Nat, s < 8 → zq_ok k s → ((zq_ch k s = 101) → zq_post k s = (if k = 12 ∨ k = 22 then 2 else 1) ∧ ((k = 12 ∨ k = 22) → 5 ≤ s)) := fun k hk s hs ho h => ⟨zq_tEl_0 k hk s hs ho h, zq_tEl_1 k hk s hs ho h⟩
theorem zq_tC_0 : ∀ k : Nat, k < 24 → ∀ s : Nat, s < 8 → zq_ok k s → (zq_ch k s = 67 ∨ zq_ch k s = 99) → zq_mn k s = 2 :: zq_rem k (s + 1) := by decide +kernel
theorem zq_tC_1 : ∀ k : Nat, k < 24 → ∀ s : Nat, s < 8 → zq_ok k s → (zq_ch k s = 67 ∨ zq_ch k s = 99) → zq_ok k (s + 1) := by decide +kernel
theorem zq_tC_2 : ∀ k : Nat, k < 24 → ∀ s : Nat, s < 8 → zq_ok k s → (zq_ch k s = 67 ∨ zq_ch k s = 99) → zq_pre k (s + 1) = zq_post k s := by decide +kernel
theorem zq_tC_3 : ∀ k : Nat, k < 24 → ∀ s : Nat, s < 8 → zq_ok k s → (zq_ch k s = 67 ∨ zq_ch k s = 99) → zq_post k s ≤ zq_mx k s := by decide +kernel
theorem zq_tC_4 : ∀ k : Nat, k < 24 → ∀ s : Nat, s < 8 → zq_ok k s → (zq_ch k s = 67 ∨ zq_ch k s = 99) → zq_mx k (s + 1) = zq_mx k s := by decide +kernel
theorem zq_tC : ∀ k : Nat, k < 24 → ∀ s : Nat, s < 8 → zq_ok k s → ((zq_ch k s = 67 ∨ zq_ch k s = 99) → zq_mn k s = 2 :: zq_rem k (s + 1) ∧ zq_ok k (s + 1) ∧ zq_pre k (s + 1) = zq_post k s ∧ zq_post k s ≤ zq_mx k s ∧ zq_mx k (s + 1) = zq_mx k s) := fun k hk s hs ho h => ⟨zq_tC_0 k hk s hs ho h, zq_tC_1 k hk s hs ho h, zq_tC_2 k hk s hs ho h, zq_tC_3 k hk s hs ho h, zq_tC_4 k hk s hs ho h⟩
theorem zq_tCu_0 : ∀ k : Nat, k < 24 → ∀ s : Nat, s < 8 → zq_ok k s → (zq_ch k s = 67) → zq_post k s = 0 := by decide +kernel
theorem zq_tCu : ∀ k : Nat, k < 24 → ∀ s : Nat, s < 8 → zq_ok k s → ((zq_ch k s = 67) → zq_post k s = 0) := fun k hk s hs ho h => zq_tCu_0 k hk s hs ho h
theorem zq_tCl_0 : ∀ k : Nat, k < 24 → ∀ s : Nat, s < 8 → zq_ok k s → (zq_ch k s = 99) → zq_post k s = (if k = 12 ∨ k = 22 then 2 else 1) := by decide +kernel
theorem zq_tCl_1b : ∀ k : Nat, k < 24 → ∀ s : Nat, s < 8 → zq_ok k s → decide (zq_ch k s = 99 ∧ (k = 12 ∨ k = 22)) = true → 5 ≤ s := by decide +kernel
theorem zq_tCl_1 : ∀ k : Nat, k < 24 → ∀ s : Nat, s < 8 → zq_ok k s → (zq_ch k s = 99) → ((k = 12 ∨ k = 22) → 5 ≤ s) := fun k hk s hs ho h g => zq_tCl_1b k hk s hs ho (decide_eq_true ⟨h, g⟩)
theorem zq_tCl : ∀ k : Nat, k < 24 → ∀ s : Nat, s < 8 → zq_ok k s → ((zq_ch k s = 99) → zq_post k s = (if k = 12 ∨ k = 22 then 2 else 1) ∧ ((k = 12 ∨ k = 22) → 5 ≤ s)) := fun k hk s hs ho h => ⟨zq_tCl_0 k hk s hs ho h, zq_tCl_1 k hk s hs ho h⟩
theorem zq_tS_0 : ∀ k : Nat, k < 24 → ∀ s : Nat, s < 8 → zq_ok k s → (zq_ch k s = 42) → zq_sil k s = 0 := by decide +kernel
theorem zq_tS_1 : ∀ k : Nat, k < 24 → ∀ s : Nat, s < 8 → zq_ok k s → (zq_ch k s = 42) → zq_mn k s = [7, 3] := by decide +kernel
theorem zq_tS_2 : ∀ k : Nat, k < 24 → ∀ s : Nat, s < 8 → zq_ok k s → (zq_ch k s = 42) → zq_pre k s = 0 := by decide +kernel
theorem zq_tS_3 : ∀ k : Nat, k < 24 → ∀ s : Nat, s < 8 → zq_ok k s → (zq_ch k s = 42) → zq_post k s = 0 := by decide +kernel
theorem zq_tS_4 : ∀ k : Nat, k < 24 → ∀ s : Nat, s < 8 → zq_ok k s → (zq_ch k s = 42) → zq_mx k s = 0 := by decide +kernel
theorem zq_tS : ∀ k : Nat, k < 24 → ∀ s : Nat, s < 8 → zq_ok k s → ((zq_ch k s = 42) → zq_sil k s = 0 ∧ zq_mn k s = [7, 3] ∧ zq_pre k s = 0 ∧ zq_post k s = 0 ∧ zq_mx k s = 0) := fun k hk s hs ho h => ⟨zq_tS_0 k hk s hs ho h, zq_tS_1 k hk s hs ho h, zq_tS_2 k hk s hs ho h, zq_tS_3 k hk s hs ho h, zq_tS_4 k hk s hs ho h⟩
theorem zq_tF_0 : ∀ k : Nat, k < 24 → ∀ s : Nat, s < 8 → zq_ok k s → (zq_ch k s = 70) → zq_sil k s = 0 := by decide +kernel
theorem zq_tF_1 : ∀ k : Nat, k < 24 → ∀ s : Nat, s < 8 → zq_ok k s → (zq_ch k s = 70) → zq_mn k s = 9 :: zq_rem k (s + 1) := by decide +kernel
theorem zq_tF_2 : ∀ k : Nat, k < 24 → ∀ s : Nat, s < 8 → zq_ok k s → (zq_ch k s = 70) → zq_ok k (s + 1) := by decide +kernel
theorem zq_tF_3 : ∀ k : Nat, k < 24 → ∀ s : Nat, s < 8 → zq_ok k s → (zq_ch k s = 70) → zq_pre k s = 0 := by decide +kernel
theorem zq_tF_4 : ∀ k : Nat, k < 24 → ∀ s : Nat, s < 8 → zq_ok k s → (zq_ch k s = 70) → zq_pre k (s + 1) = 0 := by decide +kernel
theorem zq_tF_5 : ∀ k : Nat, k < 24 → ∀ s : Nat, s < 8 → zq_ok k s → (zq_ch k s = 70) → zq_mx k (s + 1) = 0 := by decide +kernel
theorem zq_tF_6 : ∀ k : Nat, k < 24 → ∀ s : Nat, s < 8 → zq_ok k s → (zq_ch k s = 70) → ¬ (k = 12 ∨ k = 22) := by decide +kernel
theorem zq_tF : ∀ k : Nat, k < 24 → ∀ s : Nat, s < 8 → zq_ok k s → ((zq_ch k s = 70) → zq_sil k s = 0 ∧ zq_mn k s = 9 :: zq_rem k (s + 1) ∧ zq_ok k (s + 1) ∧ zq_pre k s = 0 ∧ zq_pre k (s + 1) = 0 ∧ zq_mx k (s + 1) = 0 ∧ ¬ (k = 12 ∨ k = 22)) := fun k hk s hs ho h => ⟨zq_tF_0 k hk s hs ho h, zq_tF_1 k hk s hs ho h, zq_tF_2 k hk s hs ho h, zq_tF_3 k hk s hs ho h, zq_tF_4 k hk s hs ho h, zq_tF_5 k hk s hs ho h, zq_tF_6 k hk s hs ho h⟩
theorem zq_tX_0 : ∀ k : Nat, k < 24 → ∀ s : Nat, s < 8 → zq_ok k s → (zq_ch k s = 88) → zq_sil k s = 0 := by decide +kernel
theorem zq_tX_1 : ∀ k : Nat, k < 24 → ∀ s : Nat, s < 8 → zq_ok k s → (zq_ch k s = 88) → zq_ok k (s + 1) := by decide +kernel
theorem zq_tX_2 : ∀ k : Nat, k < 24 → ∀ s : Nat, s < 8 → zq_ok k s → (zq_ch k s = 88) → zq_pre k s = 0 := by decide +kernel
theorem zq_tX_3 : ∀ k : Nat, k < 24 → ∀ s : Nat, s < 8 → zq_ok k s → (zq_ch k s = 88) → zq_mx k (s + 1) = 1 := by decide +kernel
theorem zq_tX_4b : ∀ k : Nat, k < 24 → ∀ s : Nat, s < 8 → zq_ok k s → decide (zq_ch k s = 88 ∧ (k = 12 ∨ k = 22)) = true → s + 1 < 5 := by decide +kernel
theorem zq_tX_4 : ∀ k : Nat, k < 24 → ∀ s : Nat, s < 8 → zq_ok k s → (zq_ch k s = 88) → ((k = 12 ∨ k = 22) → s + 1 < 5) := fun k hk s hs ho h g => zq_tX_4b k hk s hs ho (decide_eq_true ⟨h, g⟩)
theorem zq_tX : ∀ k : Nat, k < 24 → ∀ s : Nat, s < 8 → zq_ok k s → ((zq_ch k s = 88) → zq_sil k s = 0 ∧ zq_ok k (s + 1) ∧ zq_pre k s = 0 ∧ zq_mx k (s + 1) = 1 ∧ ((k = 12 ∨ k = 22) → s + 1 < 5)) := fun k hk s hs ho h => ⟨zq_tX_0 k hk s hs ho h, zq_tX_1 k hk s hs ho h, zq_tX_2 k hk s hs ho h, zq_tX_3 k hk s hs ho h, zq_tX_4 k hk s hs ho h⟩
theorem zq_tX1_0b : ∀ k : Nat, k < 24 → ∀ s : Nat, s < 8 → zq_ok k s → decide (zq_ch k s = 88 ∧ (k = 11 ∨ k = 21)) = true → zq_mn k s = 5 :: (zq_rem k (s + 1)).drop 2 := by decide +kernel
theorem zq_tX1_0 : ∀ k : Nat, k < 24 → ∀ s : Nat, s < 8 → zq_ok k s → zq_ch k s = 88 → (k = 11 ∨ k = 21) → zq_mn k s = 5 :: (zq_rem k (s + 1)).drop 2 := fun k hk s hs ho h g => zq_tX1_0b k hk s hs ho (decide_eq_true ⟨h, g⟩)
theorem zq_tX1_1b : ∀ k : Nat, k < 24 → ∀ s : Nat, s < 8 → zq_ok k s → decide (zq_ch k s = 88 ∧ (k = 11 ∨ k = 21)) = true → zq_rem k (s + 1) = 1 :: 10 :: (zq_rem k (s + 1)).drop 2 := by decide +kernel
theorem zq_tX1_1 : ∀ k : Nat, k < 24 → ∀ s : Nat, s < 8 → zq_ok k s → zq_ch k s = 88 → (k = 11 ∨ k = 21) → zq_rem k (s + 1) = 1 :: 10 :: (zq_rem k (s + 1)).drop 2 := fun k hk s hs ho h g => zq_tX1_1b k hk s hs ho (decide_eq_true ⟨h, g⟩)
theorem zq_tX1_2b : ∀ k : Nat, k < 24 → ∀ s : Nat, s < 8 → zq_ok k s → decide (zq_ch k s = 88 ∧ (k = 11 ∨ k = 21)) = true → zq_pre k (s + 1) = 0 := by decide +kernel
theorem zq_tX1_2 : ∀ k : Nat, k < 24 → ∀ s : Nat, s < 8 → zq_ok k s → zq_ch k s = 88 → (k = 11 ∨ k = 21) → zq_pre k (s + 1) = 0 := fun k hk s hs ho h g => zq_tX1_2b k hk s hs ho (decide_eq_true ⟨h, g⟩)
theorem zq_tX1 : ∀ k : Nat, k < 24 → ∀ s : Nat, s < 8 → zq_ok k s → (zq_ch k s = 88 → ((k = 11 ∨ k = 21) → zq_mn k s = 5 :: (zq_rem k (s + 1)).drop 2 ∧ zq_rem k (s + 1) = 1 :: 10 :: (zq_rem k (s + 1)).drop 2 ∧ zq_pre k (s + 1) = 0)) := fun k hk s hs ho h g => ⟨zq_tX1_0 k hk s hs ho h g, zq_tX1_1 k hk s hs ho h g, zq_tX1_2 k hk s hs ho h g⟩
theorem zq_tX2_0b : ∀ k : Nat, k < 24 → ∀ s : Nat, s < 8 → zq_ok k s → decide (zq_ch k s = 88 ∧ ¬ (k = 11 ∨ k = 21)) = true → zq_mn k s = 5 :: zq_rem k (s + 1) := by decide +kernel
theorem zq_tX2_0 : ∀ k : Nat, k < 24 → ∀ s : Nat, s < 8 → zq_ok k s → zq_ch k s = 88 → ¬ (k = 11 ∨ k = 21) → zq_mn k s = 5 :: zq_rem k (s + 1) := fun k hk s hs ho h g => zq_tX2_0b k hk s hs ho (decide_eq_true ⟨h, g⟩)
theorem zq_tX2_1b : ∀ k : Nat, k < 24 → ∀ s : Nat, s < 8 → zq_ok k s → decide (zq_ch k s = 88 ∧ ¬ (k = 11 ∨ k = 21)) = true → zq_pre k (s + 1) = 1 := by decide +kernel
theorem zq_tX2_1 : ∀ k : Nat, k < 24 → ∀ s : Nat, s < 8 → zq_ok k s → zq_ch k s = 88 → ¬ (k = 11 ∨ k = 21) → zq_pre k (s + 1) = 1 := fun k hk s hs ho h g => zq_tX2_1b k hk s hs ho (decide_eq_true ⟨h, g⟩)
theorem zq_tX2 : ∀ k : Nat, k < 24 → ∀ s : Nat, s < 8 → zq_ok k s → (zq_ch k s = 88 → (¬ (k = 11 ∨ k = 21) → zq_mn k s = 5 :: zq_rem k (s + 1) ∧ zq_pre k (s + 1) = 1)) := fun k hk s hs ho h g => ⟨zq_tX2_0 k hk s hs ho h g, zq_tX2_1 k hk s hs ho h g⟩
theorem zq_tY_0 : ∀ k : Nat, k < 24 → ∀ s : Nat, s < 8 → zq_ok k s → (zq_ch k s = 89) → zq_sil k s = 0 := by decide +kernel
theorem zq_tY_1 : ∀ k : Nat, k < 24 → ∀ s : Nat, s < 8 → zq_ok k s → (zq_ch k s = 89) → zq_mn k s = 6 :: zq_rem k (s + 1) := by decide +kernel
theorem zq_tY_2 : ∀ k : Nat, k < 24 → ∀ s : Nat, s < 8 → zq_ok k s → (zq_ch k s = 89) → zq_ok k (s + 1) := by decide +kernel
theorem zq_tY_3 : ∀ k : Nat, k < 24 → ∀ s : Nat, s < 8 → zq_ok k s → (zq_ch k s = 89) → zq_pre k s = 1 := by decide +kernel
theorem zq_tY_4 : ∀ k : Nat, k < 24 → ∀ s : Nat, s < 8 → zq_ok k s → (zq_ch k s = 89) → zq_pre k (s + 1) = 2 := by decide +kernel
theorem zq_tY_5 : ∀ k : Nat, k < 24 → ∀ s : Nat, s < 8 → zq_ok k s → (zq_ch k s = 89) → zq_mx k (s + 1) = 2 := by decide +kernel
theorem zq_tY_6 : ∀ k : Nat, k < 24 → ∀ s : Nat, s < 8 → zq_ok k s → (zq_ch k s = 89) → (k = 12 ∨ k = 22) := by decide +kernel
theorem zq_tY_7 : ∀ k : Nat, k < 24 → ∀ s : Nat, s < 8 → zq_ok k s → (zq_ch k s = 89) → zq_mx k s = 1 := by decide +kernel
theorem zq_tY : ∀ k : Nat, k < 24 → ∀ s : Nat, s < 8 → zq_ok k s → ((zq_ch k s = 89) → zq_sil k s = 0 ∧ zq_mn k s = 6 :: zq_rem k (s + 1) ∧ zq_ok k (s + 1) ∧ zq_pre k s = 1 ∧ zq_pre k (s + 1) = 2 ∧ zq_mx k (s + 1) = 2 ∧ (k = 12 ∨ k = 22) ∧ zq_mx k s = 1) := fun k hk s hs ho h => ⟨zq_tY_0 k hk s hs ho h, zq_tY_1 k hk s hs ho h, zq_tY_2 k hk s hs ho h, zq_tY_3 k hk s hs ho h, zq_tY_4 k hk s hs ho h, zq_tY_5 k hk s hs ho h, zq_tY_6 k hk s hs ho h, zq_tY_7 k hk s hs ho h⟩
theorem zq_tO_0 : ∀ k : Nat, k < 24 → ∀ s : Nat, s < 8 → zq_ok k s → (zq_ch k s = 40) → zq_sil k s = 0 := by decide +kernel
theorem zq_tO_1 : ∀ k : Nat, k < 24 → ∀ s : Nat, s < 8 → zq_ok k s → (zq_ch k s = 40) → zq_mn k s = 4 :: zq_rem k (s + 1) := by decide +kernel
theorem zq_tO_2 : ∀ k : Nat, k < 24 → ∀ s : Nat, s < 8 → zq_ok k s → (zq_ch k s = 40) → zq_ok k (s + 1) := by decide +kernel
theorem zq_tO_3 : ∀ k : Nat, k < 24 → ∀ s : Nat, s < 8 → zq_ok k s → (zq_ch k s = 40) → zq_pre k s = 0 := by decide +kernel
theorem zq_tO_4 : ∀ k : Nat, k < 24 → ∀ s : Nat, s < 8 → zq_ok k s → (zq_ch k s = 40) → zq_pre k (s + 1) = 0 := by decide +kernel
theorem zq_tO_5 : ∀ k : Nat, k < 24 → ∀ s : Nat, s < 8 → zq_ok k s → (zq_ch k s = 40) → zq_mx k (s + 1) = zq_mx k s := by decide +kernel
theorem zq_tO_6 : ∀ k : Nat, k < 24 → ∀ s : Nat, s < 8 → zq_ok k s → (zq_ch k s = 40) → (s + 1 < 5) := by decide +kernel
theorem zq_tO : ∀ k : Nat, k < 24 → ∀ s : Nat, s < 8 → zq_ok k s → ((zq_ch k s = 40) → zq_sil k s = 0 ∧ zq_mn k s = 4 :: zq_rem k (s + 1) ∧ zq_ok k (s + 1) ∧ zq_pre k s = 0 ∧ zq_pre k (s + 1) = 0 ∧ zq_mx k (s + 1) = zq_mx k s ∧ (s + 1 < 5)) := fun k hk s hs ho h => ⟨zq_tO_0 k hk s hs ho h, zq_tO_1 k hk s hs ho h, zq_tO_2 k hk s hs ho h, zq_tO_3 k hk s hs ho h, zq_tO_4 k hk s hs ho h, zq_tO_5 k hk s hs ho h, zq_tO_6 k hk s hs ho h⟩
theorem zq_tK_0 : ∀ k : Nat, k < 24 → ∀ s : Nat, s < 8 → zq_ok k s → (zq_ch k s = 41) → zq_mn k s = 3 :: zq_rem k (s + 1) := by decide +kernel
theorem zq_tK_1 : ∀ k : Nat, k < 24 → ∀ s : Nat, s < 8 → zq_ok k s → (zq_ch k s = 41) → zq_ok k (s + 1) := by decide +kernel
theorem zq_tK_2 : ∀ k : Nat, k < 24 → ∀ s : Nat, s < 8 → zq_ok k s → (zq_ch k s = 41) → zq_post k s = 0 := by decide +kernel
theorem zq_tK_3 : ∀ k : Nat, k < 24 → ∀ s : Nat, s < 8 → zq_ok k s → (zq_ch k s = 41) → zq_pre k (s + 1) = 0 := by decide +kernel
theorem zq_tK_4 : ∀ k : Nat, k < 24 → ∀ s : Nat, s < 8 → zq_ok k s → (zq_ch k s = 41) → zq_mx k (s + 1) = zq_mx k s := by decide +kernel
theorem zq_tK_5 : ∀ k : Nat, k < 24 → ∀ s : Nat, s < 8 → zq_ok k s → (zq_ch k s = 41) → (k = 12 ∨ k = 22) := by decide +kernel
theorem zq_tK_6 : ∀ k : Nat, k < 24 → ∀ s : Nat, s < 8 → zq_ok k s → (zq_ch k s = 41) → 5 ≤ s := by decide +kernel
theorem zq_tK : ∀ k : Nat, k < 24 → ∀ s : Nat, s < 8 → zq_ok k s → ((zq_ch k s = 41) → zq_mn k s = 3 :: zq_rem k (s + 1) ∧ zq_ok k (s + 1) ∧ zq_post k s = 0 ∧ zq_pre k (s + 1) = 0 ∧ zq_mx k (s + 1) = zq_mx k s ∧ (k = 12 ∨ k = 22) ∧ 5 ≤ s) := fun k hk s hs ho h => ⟨zq_tK_0 k hk s hs ho h, zq_tK_1 k hk s hs ho h, zq_tK_2 k hk s hs ho h, zq_tK_3 k hk s hs ho h, zq_tK_4 k hk s hs ho h, zq_tK_5 k hk s hs ho h, zq_tK_6 k hk s hs ho h⟩
theorem zq_tD_0 : ∀ k : Nat, k < 24 → ∀ s : Nat, s < 8 → zq_ok k s → (zq_ch k s = 46) → zq_mn k s = [3] := by decide +kernel
theorem zq_tD_1 : ∀ k : Nat, k < 24 → ∀ s : Nat, s < 8 → zq_ok k s → (zq_ch k s = 46) → zq_post k s = 0 := by decide +kernel
theorem zq_tD : ∀ k : Nat, k < 24 → ∀ s : Nat, s < 8 → zq_ok k s → ((zq_ch k s = 46) → zq_mn k s = [3] ∧ zq_post k s = 0) := fun k hk s hs ho h => ⟨zq_tD_0 k hk s hs ho h, zq_tD_1 k hk s hs ho h⟩
theorem zq_tsilb : ∀ k : Nat, k < 24 → ∀ s : Nat, s < 8 → zq_ok k s → (zq_sil k s == 0 || (zq_sil k s == 10 && zq_post k s == zq_pre k s + 1) || (zq_sil k s == 8 && zq_post k s == 0 && zq_pre k s == if k = 12 ∨ k = 22 then 2 else 1)) = true := by decide +kernel
theorem zq_tsil : ∀ k : Nat, k < 24 → ∀ s : Nat, s < 8 → zq_ok k s → (zq_sil k s = 0 ∨ (zq_sil k s = 10 ∧ zq_post k s = zq_pre k s + 1) ∨ (zq_sil k s = 8 ∧ zq_post k s = 0 ∧ zq_pre k s = if k = 12 ∨ k = 22 then 2 else 1)) := by
  intro k hk s hs ho
  have h := zq_tsilb k hk s hs ho
  rw [Bool.or_eq_true, Bool.or_eq_true, Bool.and_eq_true, Bool.and_eq_true, Bool.and_eq_true, beq_iff_eq, beq_iff_eq, beq_iff_eq, beq_iff_eq, beq_iff_eq, beq_iff_eq] at h
  rcases h with (h | h) | h
  · exact Or.inl h
  · exact Or.inr (Or.inl h)
  · exact Or.inr (Or.inr ⟨h.1.1, h.1.2, h.2⟩)
theorem zq_tpp_0 : ∀ k : Nat, k < 24 → ∀ s : Nat, s < 8 → zq_ok k s → (zq_sil k s = 0 → zq_post k s = zq_pre k s) := by decide +kernel
theorem zq_tpp_1 : ∀ k : Nat, k < 24 → ∀ s : Nat, s < 8 → zq_ok k s → zq_post k s ≤ 2 := by decide +kernel
theorem zq_tpp_2 : ∀ k : Nat, k < 24 → ∀ s : Nat, s < 8 → zq_ok k s → zq_pre k s ≤ 2 := by decide +kernel
theorem zq_tpp_3 : ∀ k : Nat, k < 24 → ∀ s : Nat, s < 8 → zq_ok k s → (zq_ch k s = 46 ↔ zq_len k ≤ s) := by decide +kernel
theorem zq_tpp_4 : ∀ k : Nat, k < 24 → ∀ s : Nat, s < 8 → zq_ok k s → zq_post k s ≤ zq_mx k s := by decide +kernel
theorem zq_tpp_5 : ∀ k : Nat, k < 24 → ∀ s : Nat, s < 8 → zq_ok k s → zq_pre k s ≤ zq_mx k s := by decide +kernel
theorem zq_tpp : ∀ k : Nat, k < 24 → ∀ s : Nat, s < 8 → zq_ok k s → ((zq_sil k s = 0 → zq_post k s = zq_pre k s) ∧ zq_post k s ≤ 2 ∧ zq_pre k s ≤ 2 ∧ (zq_ch k s = 46 ↔ zq_len k ≤ s) ∧ zq_post k s ≤ zq_mx k s ∧ zq_pre k s ≤ zq_mx k s) := fun k hk s hs ho => ⟨zq_tpp_0 k hk s hs ho, zq_tpp_1 k hk s hs ho, zq_tpp_2 k hk s hs ho, zq_tpp_3 k hk s hs ho, zq_tpp_4 k hk s hs ho, zq_tpp_5 k hk s hs ho⟩
theorem zq_tchb : ∀ k : Nat, k < 24 → ∀ s : Nat, s < 8 → zq_ok k s → ([69, 101, 67, 99, 42, 70, 88, 89, 40, 41, 46] : List Int32).contains (zq_ch k s) = true := by decide +kernel
theorem zq_tch : ∀ k : Nat, k < 24 → ∀ s : Nat, s < 8 → zq_ok k s → (zq_ch k s = 69 ∨ zq_ch k s = 101 ∨ zq_ch k s = 67 ∨ zq_ch k s = 99 ∨ zq_ch k s = 42 ∨ zq_ch k s = 70 ∨ zq_ch k s = 88 ∨ zq_ch k s = 89 ∨ zq_ch k s = 40 ∨ zq_ch k s = 41 ∨ zq_ch k s = 46) := by
  intro k hk s hs ho
  have h := zq_tchb k hk s hs ho
  rw [List.contains_iff_mem] at h
  simpa only [List.mem_cons, List.not_mem_nil, or_false] using h
theorem zq_t5b : ∀ k : Nat, k < 24 → ∀ s : Nat, s < 8 → zq_ok k s → decide ((k = 12 ∨ k = 22) ∧ 5 ≤ s + 1 ∧ ([69, 101, 67, 99] : List Int32).contains (zq_ch k s) = true) = true → 5 ≤ s := by decide +kernel
theorem zq_t5 : ∀ k : Nat, k < 24 → ∀ s : Nat, s < 8 → zq_ok k s → (k = 12 ∨ k = 22) → 5 ≤ s + 1 → ([69, 101, 67, 99] : List Int32).contains (zq_ch k s) = true → 5 ≤ s := fun k hk s hs ho h g g2 => zq_t5b k hk s hs ho (decide_eq_true ⟨h, g, g2⟩)
theorem zq_ok0 : ∀ k : Nat, k < 24 → 3 ≤ k → zq_ok k 0 ∧ zq_pre k 0 = 0 ∧ zq_mx k 0 = 0 ∧ zq_sil k 0 = 0 := by decide +kernel
def zq_q (k s n : Nat) : List (Nat × Int32) := (zq_rem k s).map (fun w => (w, nI n))
set_option maxHeartbeats 4000000 in
theorem zq_expect {k : Nat} (h3 : 3 ≤ k) (h24 : k < 24) {d n : Nat} {aKnd aDue aDof : Nat → Int32} {l : List (Nat × Int32)} (hk : aKnd n = nI k) (h : zq_stk aDue aDof l d) :
    zq_pu (zq_q k 0 n ++ l) (zm_expect d aKnd aDue aDof n) := by
  have h : zq_pu l (d, aDue, aDof) := h
  have hp := fun (w : Nat) (hw : w < 11) (l : List (Nat × Int32)) (u : Nat × (Nat → Int32) × (Nat → Int32)) (h : zq_pu l u) => zq_push w hw (nI n) h
  have hcs : k = 3 ∨ k = 4 ∨ k = 5 ∨ k = 6 ∨ k = 7 ∨ k = 8 ∨ k = 9 ∨ k = 10 ∨ k = 11 ∨ k = 12 ∨ k = 13 ∨ k = 14 ∨ k = 15 ∨ k = 16 ∨ k = 17 ∨ k = 18 ∨ k = 19 ∨ k = 20 ∨ k = 21 ∨ k = 22 ∨ k = 23 := by omega
  rcases hcs with rfl | rfl | rfl | rfl | rfl | rfl | rfl | rfl | rfl | rfl | rfl | rfl | rfl | rfl | rfl | rfl | rfl | rfl | rfl | rfl | rfl
  · have hk : aKnd n = 3 := hk
    simp only [zm_expect, zm_expect_1, zm_expect_45, hk]
    exact hp 1 (by decide) _ _ (hp 1 (by decide) _ _ (hp 3 (by decide) _ _ h))
  · have hk : aKnd n = 4 := hk
    simp only [zm_expect, zm_expect_1, zm_expect_45, hk]
    exact hp 1 (by decide) _ _ (hp 1 (by decide) _ _ (hp 3 (by decide) _ _ h))
  · have hk : aKnd n = 5 := hk
    simp only [zm_expect, zm_expect_1, zm_expect_45, hk]
    exact hp 1 (by decide) _ _ (hp 1 (by decide) _ _ (hp 3 (by decide) _ _ h))
  · have hk : aKnd n = 6 := hk
    simp only [zm_expect, zm_expect_1, zm_expect_45, hk]
    exact hp 1 (by decide) _ _ (hp 1 (by decide) _ _ (hp 3 (by decide) _ _ h))
  · have hk : aKnd n = 7 := hk
    simp only [zm_expect, zm_expect_1, zm_expect_45, hk]
    exact hp 1 (by decide) _ _ (hp 1 (by decide) _ _ (hp 3 (by decide) _ _ h))
  · have hk : aKnd n = 8 := hk
    simp only [zm_expect, zm_expect_1, zm_expect_45, hk]
    exact hp 1 (by decide) _ _ (hp 1 (by decide) _ _ (hp 3 (by decide) _ _ h))
  · have hk : aKnd n = 9 := hk
    simp only [zm_expect, zm_expect_1, zm_expect_45, hk]
    exact hp 1 (by decide) _ _ (hp 1 (by decide) _ _ (hp 3 (by decide) _ _ h))
  · have hk : aKnd n = 10 := hk
    simp only [zm_expect, zm_expect_1, zm_expect_45, hk]
    exact hp 1 (by decide) _ _ (hp 1 (by decide) _ _ (hp 1 (by decide) _ _ (hp 3 (by decide) _ _ h)))
  · have hk : aKnd n = 11 := hk
    simp only [zm_expect, zm_expect_1, zm_expect_45, hk]
    exact hp 5 (by decide) _ _ (hp 1 (by decide) _ _ (hp 8 (by decide) _ _ (hp 3 (by decide) _ _ h)))
  · have hk : aKnd n = 12 := hk
    simp only [zm_expect, zm_expect_1, zm_expect_45, hk]
    exact hp 1 (by decide) _ _ (hp 1 (by decide) _ _ (hp 4 (by decide) _ _ (hp 5 (by decide) _ _ (hp 6 (by decide) _ _ (hp 1 (by decide) _ _ (hp 8 (by decide) _ _ (hp 3 (by decide) _ _ (hp 3 (by decide) _ _ h))))))))
  · have hk : aKnd n = 13 := hk
    simp only [zm_expect, zm_expect_1, zm_expect_45, hk]
    exact hp 1 (by decide) _ _ (hp 1 (by decide) _ _ (hp 3 (by decide) _ _ h))
  · have hk : aKnd n = 14 := hk
    simp only [zm_expect, zm_expect_1, zm_expect_45, hk]
    exact hp 9 (by decide) _ _ (hp 7 (by decide) _ _ (hp 3 (by decide) _ _ h))
  · have hk : aKnd n = 15 := hk
    simp only [zm_expect, zm_expect_1, zm_expect_45, hk]
    exact hp 9 (by decide) _ _ (hp 7 (by decide) _ _ (hp 3 (by decide) _ _ h))
  · have hk : aKnd n = 16 := hk
    simp only [zm_expect, zm_expect_1, zm_expect_45, hk]
    exact hp 2 (by decide) _ _ (hp 3 (by decide) _ _ h)
  · have hk : aKnd n = 17 := hk
    simp only [zm_expect, zm_expect_1, zm_expect_45, hk]
    exact hp 2 (by decide) _ _ (hp 3 (by decide) _ _ h)
  · have hk : aKnd n = 18 := hk
    simp only [zm_expect, zm_expect_1, zm_expect_45, hk]
    exact hp 1 (by decide) _ _ (hp 5 (by decide) _ _ (hp 2 (by decide) _ _ (hp 8 (by decide) _ _ (hp 3 (by decide) _ _ h))))
  · have hk : aKnd n = 19 := hk
    simp only [zm_expect, zm_expect_1, zm_expect_45, hk]
    exact hp 1 (by decide) _ _ (hp 3 (by decide) _ _ h)
  · have hk : aKnd n = 20 := hk
    simp only [zm_expect, zm_expect_1, zm_expect_45, hk]
    exact hp 1 (by decide) _ _ (hp 2 (by decide) _ _ (hp 2 (by decide) _ _ (hp 3 (by decide) _ _ h)))
  · have hk : aKnd n = 21 := hk
    simp only [zm_expect, zm_expect_1, zm_expect_45, hk]
    exact hp 5 (by decide) _ _ (hp 2 (by decide) _ _ (hp 8 (by decide) _ _ (hp 3 (by decide) _ _ h)))
  · have hk : aKnd n = 22 := hk
    simp only [zm_expect, zm_expect_1, zm_expect_45, hk]
    exact hp 1 (by decide) _ _ (hp 2 (by decide) _ _ (hp 4 (by decide) _ _ (hp 5 (by decide) _ _ (hp 6 (by decide) _ _ (hp 2 (by decide) _ _ (hp 8 (by decide) _ _ (hp 3 (by decide) _ _ (hp 3 (by decide) _ _ h))))))))
  · have hk : aKnd n = 23 := hk
    simp only [zm_expect, zm_expect_1, zm_expect_45, hk]
    exact hp 9 (by decide) _ _ (hp 7 (by decide) _ _ (hp 3 (by decide) _ _ h))
theorem zq_must4 (size : Nat) (plc : Int32) (att : Nat) (g : Bool) : zm_must size 0 plc 4 att g = (false, 3, nI size) := by
  cases g <;> rfl
theorem zq_mustF (size : Nat) (plc : Int32) {tok : Int32} (h : ¬ tok = 4) (att : Nat) : zm_must size 0 plc tok att false = (false, 2, nI att) := by
  simp only [zm_must, zm_wrong, if_neg h]; rfl
theorem zq_mustT (size : Nat) (plc : Int32) {tok : Int32} (h : ¬ tok = 4) (att : Nat) : zm_must size 0 plc tok att true = (true, 0, plc) := by
  simp only [zm_must, if_neg h]; rfl
def zq_ft (size d : Nat) (f : Int32) (p : Nat) (σ : zm_L) : Prop := σ.1 = f ∧ σ.2.1 = nI p ∧ σ.2.2.1 ≤ size ∧ σ.2.2.2.2.2.2.2.2.1 ≤ d
section
variable {tx : Nat → Nat} {size : Nat} {plc : Int32} {pp : Nat} {tok : Int32} {att : Nat} {spl : Int64} {val : Int32} {nodes d : Nat} {thn : Int32} {aKnd aPrn aPlc aNpl aSpl aVar aVal : Nat → Int32} {aNam aSec : Nat → Int64} {aDue aDof : Nat → Int32}
theorem zq_e10 (h : aDue d = nI 10) : zm_e1 tx size 0 plc pp tok att spl val nodes (d + 1) thn aKnd aPrn aPlc aNpl aSpl aVar aVal aNam aSec aDue aDof =
    (0, plc, pp, tok, att, spl, val, nodes, d, thn + 1, aKnd, aPrn, aPlc, aNpl, aSpl, aVar, aVal, aNam, aSec, aDue, aDof) := by
  rw [zm_e1, Nat.add_sub_cancel, if_pos (show aDue d = 10 from h)]
theorem zq_e8 (h : aDue d = nI 8) {k n : Nat} (hn : n < 10000) (ho : aDof d = nI n) (hk : aKnd n = nI k) (hk2 : k < 24) : zm_e1 tx size 0 plc pp tok att spl val nodes (d + 1) thn aKnd aPrn aPlc aNpl aSpl aVar aVal aNam aSec aDue aDof =
    (0, plc, pp, tok, att, spl, val, nodes, d, thn - nI (if k = 12 ∨ k = 22 then 2 else 1), aKnd, aPrn, aPlc, aNpl, aSpl, aVar, aVal, aNam, aSec, aDue, aDof) := by
  have h' : aDue d = 8 := h
  rw [zm_e1, Nat.add_sub_cancel, if_neg (by rw [h']; decide), zm_step, Nat.add_sub_cancel, if_pos h', ho, zq_cl (by omega), hk]
  by_cases h1 : k = 12
  · rw [if_pos (by rw [h1]; rfl), if_pos (Or.inl h1)]; rfl
  · rw [if_neg (show ¬ nI k = 12 from fun g => h1 ((zq_inj (n := 12) (by omega) (by omega)).1 g))]
    by_cases h2 : k = 22
    · rw [if_pos (by rw [h2]; rfl), if_pos (Or.inr h2)]; rfl
    · rw [if_neg (show ¬ nI k = 22 from fun g => h2 ((zq_inj (n := 22) (by omega) (by omega)).1 g)), if_neg (by omega)]; rfl
theorem zq_e1n {w : Nat} (hw : w < 10) (h8 : ¬ w = 8) (h : aDue d = nI w) : zm_e1 tx size 0 plc pp tok att spl val nodes (d + 1) thn aKnd aPrn aPlc aNpl aSpl aVar aVal aNam aSec aDue aDof =
    zm_step_1 tx size nodes (d + 1) thn aKnd aPrn aPlc aNpl aSpl aVar aVal aNam aSec aDue aDof (zm_next tx size 0 plc pp tok spl val) := by
  rw [zm_e1, Nat.add_sub_cancel, if_neg (show ¬ aDue d = 10 by rw [h]; exact fun g => by have := (zq_inj (n := 10) (by omega) (by omega)).1 g; omega), zm_step, Nat.add_sub_cancel, if_neg (show ¬ aDue d = 8 by rw [h]; exact fun g => by have := (zq_inj (n := 8) (by omega) (by omega)).1 g; omega)]
end
section
variable {tx : Nat → Nat} {size : Nat} {flt plc : Int32} {pp : Nat} {tok : Int32} {att : Nat} {spl : Int64} {val : Int32} {nodes d : Nat} {thn : Int32} {aKnd aPrn aPlc aNpl aSpl aVar aVal : Nat → Int32} {aNam aSec : Nat → Int64} {aDue aDof : Nat → Int32}
theorem zq_sB (h : flt = 1) : zm_step_1 tx size nodes (d + 1) thn aKnd aPrn aPlc aNpl aSpl aVar aVal aNam aSec aDue aDof (flt, plc, pp, tok, att, spl, val) =
    (flt, plc, pp, tok, att, spl, val, nodes, d, thn, aKnd, aPrn, aPlc, aNpl, aSpl, aVar, aVal, aNam, aSec, aDue, aDof) := by
  subst h
  rw [zm_step_1, if_neg (show ¬ (1 : Int32) ≤ 0 by decide), Nat.add_sub_cancel]
theorem zq_s12 {st : Bool} (h : aDue d = nI (if st = true then 1 else 2)) : zm_step_1 tx size nodes (d + 1) thn aKnd aPrn aPlc aNpl aSpl aVar aVal aNam aSec aDue aDof (0, plc, pp, tok, att, spl, val) =
    zm_step_2 thn (zm_begin tx size 0 plc pp tok att spl val nodes d thn aKnd aPrn aPlc aNpl aSpl aVar aVal aNam aSec aDue aDof st (aDof d)) := by
  cases st
  · have h : aDue d = 2 := h
    simp only [zm_step_1, Nat.add_sub_cancel, h]; rfl
  · have h : aDue d = 1 := h
    simp only [zm_step_1, Nat.add_sub_cancel, h]; rfl
theorem zq_s3 (h : aDue d = nI 3) : zm_step_1 tx size nodes (d + 1) thn aKnd aPrn aPlc aNpl aSpl aVar aVal aNam aSec aDue aDof (0, plc, pp, tok, att, spl, val) =
    ((zm_must size 0 plc tok att (decide (tok = 1))).2.1, (zm_must size 0 plc tok att (decide (tok = 1))).2.2, pp, tok, att, spl, val, nodes, d, thn, aKnd, aPrn, aPlc, aNpl, aSpl, aVar, aVal, aNam, aSec, aDue, aDof) := by
  have h : aDue d = 3 := h
  by_cases ht : tok = 1
  · simp only [zm_step_1, Nat.add_sub_cancel, h, if_pos ht, decide_eq_true ht]; rfl
  · simp only [zm_step_1, Nat.add_sub_cancel, h, if_neg ht, decide_eq_false ht]; rfl
theorem zq_s4 (h : aDue d = nI 4) : zm_step_1 tx size nodes (d + 1) thn aKnd aPrn aPlc aNpl aSpl aVar aVal aNam aSec aDue aDof (0, plc, pp, tok, att, spl, val) =
    ((zm_must size 0 plc tok att (decide (tok = 0))).2.1, (zm_must size 0 plc tok att (decide (tok = 0))).2.2, pp, tok, att, spl, val, nodes, d, thn, aKnd, aPrn, aPlc, aNpl, aSpl, aVar, aVal, aNam, aSec, aDue, aDof) := by
  have h : aDue d = 4 := h
  by_cases ht : tok = 0
  · simp only [zm_step_1, Nat.add_sub_cancel, h, if_pos ht, decide_eq_true ht]; rfl
  · simp only [zm_step_1, Nat.add_sub_cancel, h, if_neg ht, decide_eq_false ht]; rfl
theorem zq_s7 (h : aDue d = nI 7) : zm_step_1 tx size nodes (d + 1) thn aKnd aPrn aPlc aNpl aSpl aVar aVal aNam aSec aDue aDof (0, plc, pp, tok, att, spl, val) =
    if tok = 1 then (0, plc, pp, tok, att, spl, val, nodes, d - 1, thn, aKnd, aPrn, aPlc, aNpl, aSpl, aVar, aVal, aNam, aSec, aDue, aDof)
    else zm_step_2 thn (zm_begin tx size 0 plc pp tok att spl val nodes (zm_push d aDue aDof 7 (aDof d)).1 thn aKnd aPrn aPlc aNpl aSpl aVar aVal aNam aSec (zm_push d aDue aDof 7 (aDof d)).2.1 (zm_push d aDue aDof 7 (aDof d)).2.2 true (aDof d)) := by
  have h : aDue d = 7 := h
  simp only [zm_step_1, Nat.add_sub_cancel, h]; rfl
theorem zq_s9 (h : aDue d = nI 9) : zm_step_1 tx size nodes (d + 1) thn aKnd aPrn aPlc aNpl aSpl aVar aVal aNam aSec aDue aDof (0, plc, pp, tok, att, spl, val) =
    if (zm_must size 0 plc tok att (zm_isOwn tx pp tok att)).1 = true then
      ((zm_must size 0 plc tok att (zm_isOwn tx pp tok att)).2.1, (zm_must size 0 plc tok att (zm_isOwn tx pp tok att)).2.2, pp, tok, att, spl, val, nodes, d, thn, aKnd, aPrn, aPlc, upd aNpl (aDof d).toNatClampNeg (nI att), aSpl, aVar, aVal, vp_updL aNam (aDof d).toNatClampNeg spl, aSec, aDue, aDof)
    else ((zm_must size 0 plc tok att (zm_isOwn tx pp tok att)).2.1, (zm_must size 0 plc tok att (zm_isOwn tx pp tok att)).2.2, pp, tok, att, spl, val, nodes, d, thn, aKnd, aPrn, aPlc, aNpl, aSpl, aVar, aVal, aNam, aSec, aDue, aDof) := by
  have h : aDue d = 9 := h
  simp only [zm_step_1, Nat.add_sub_cancel, h]; rfl
theorem zq_s5a (h : aDue d = nI 5) (hg : (zm_must size 0 plc tok att (zm_isOwn tx pp tok att)).1 = false) : zm_step_1 tx size nodes (d + 1) thn aKnd aPrn aPlc aNpl aSpl aVar aVal aNam aSec aDue aDof (0, plc, pp, tok, att, spl, val) =
    ((zm_must size 0 plc tok att (zm_isOwn tx pp tok att)).2.1, (zm_must size 0 plc tok att (zm_isOwn tx pp tok att)).2.2, pp, tok, att, spl, val, nodes, d, thn, aKnd, aPrn, aPlc, aNpl, aSpl, aVar, aVal, aNam, aSec, aDue, aDof) := by
  have h : aDue d = 5 := h
  simp only [zm_step_1, Nat.add_sub_cancel, h, zm_step_8, hg]; rfl
theorem zq_s5 (h : aDue d = nI 5) (h4 : ¬ tok = 4) (hg : zm_isOwn tx pp tok att = true) {n k : Nat} (hn : n < 10000) (ho : aDof d = nI n) (hk : aKnd n = nI k) (hk2 : k < 24) : zm_step_1 tx size nodes (d + 1) thn aKnd aPrn aPlc aNpl aSpl aVar aVal aNam aSec aDue aDof (0, plc, pp, tok, att, spl, val) =
    if k = 11 ∨ k = 21 then ((zm_letBinds size 0 plc tok att d thn aDue aDof (nI n)).1, (zm_letBinds size 0 plc tok att d thn aDue aDof (nI n)).2.1, pp, tok, att, spl, val, nodes, (zm_letBinds size 0 plc tok att d thn aDue aDof (nI n)).2.2.1, thn, aKnd, aPrn, aPlc, upd aNpl n (nI att), aSpl, aVar, aVal, vp_updL aNam n spl, aSec, (zm_letBinds size 0 plc tok att d thn aDue aDof (nI n)).2.2.2.1, (zm_letBinds size 0 plc tok att d thn aDue aDof (nI n)).2.2.2.2)
    else ((zm_bind size 0 plc tok att thn).1, (zm_bind size 0 plc tok att thn).2.1, pp, tok, att, spl, val, nodes, d, (zm_bind size 0 plc tok att thn).2.2, aKnd, aPrn, aPlc, upd aNpl n (nI att), aSpl, aVar, aVal, vp_updL aNam n spl, aSec, aDue, aDof) := by
  have h : aDue d = 5 := h
  have e11 : nI k = 11 ↔ k = 11 := zq_inj (n := 11) (by omega) (by omega)
  have e21 : nI k = 21 ↔ k = 21 := zq_inj (n := 21) (by omega) (by omega)
  simp only [zm_step_1, Nat.add_sub_cancel, h, zm_step_8, hg, zq_mustT size plc h4 att, zm_step_9, ho, zq_cl (show n < 2147483648 by omega), hk, e11, e21, zm_setNameI]
  by_cases h1 : k = 11
  · simp only [h1]; rfl
  · by_cases h2 : k = 21
    · simp only [h2]; rfl
    · rw [if_neg (by omega : ¬ (k = 11 ∨ k = 21))]
      simp only [if_neg h1, if_neg h2]; rfl
theorem zq_s6a (h : aDue d = nI 6) (h4 : ¬ tok = 4) (hg : zm_isOwn tx pp tok att = false ∨ lg_cmp spl (aNam (aDof d).toNatClampNeg) = 0) : zm_step_1 tx size nodes (d + 1) thn aKnd aPrn aPlc aNpl aSpl aVar aVal aNam aSec aDue aDof (0, plc, pp, tok, att, spl, val) =
    (2, nI att, pp, tok, att, spl, val, nodes, d, thn, aKnd, aPrn, aPlc, aNpl, aSpl, aVar, aVal, aNam, aSec, aDue, aDof) := by
  have h : aDue d = 6 := h
  by_cases hf : zm_isOwn tx pp tok att = true
  · have hc : lg_cmp spl (aNam (aDof d).toNatClampNeg) = 0 := by
      rcases hg with g | g
      · rw [hf] at g; exact absurd g (by decide)
      · exact g
    simp only [zm_step_1, Nat.add_sub_cancel, h, hf, hc, zq_mustF size plc h4 att, zm_step_15]; rfl
  · have hf : zm_isOwn tx pp tok att = false := by simpa using hf
    simp only [zm_step_1, Nat.add_sub_cancel, h, hf, zq_mustF size plc h4 att, zm_step_13]; rfl
theorem zq_s6e (h : aDue d = nI 6) : zm_step_1 tx size nodes (d + 1) thn aKnd aPrn aPlc aNpl aSpl aVar aVal aNam aSec aDue aDof (0, plc, pp, 4, att, spl, val) =
    (3, nI size, pp, 4, att, spl, val, nodes, d, thn, aKnd, aPrn, aPlc, aNpl, aSpl, aVar, aVal, aNam, aSec, aDue, aDof) := by
  have h : aDue d = 6 := h
  have hf : zm_isOwn tx pp 4 att = false := if_neg (by decide)
  simp only [zm_step_1, Nat.add_sub_cancel, h, hf, zq_must4, zm_step_13]; rfl
theorem zq_s6 (h : aDue d = nI 6) (h4 : ¬ tok = 4) (hg : zm_isOwn tx pp tok att = true) (hc : ¬ lg_cmp spl (aNam (aDof d).toNatClampNeg) = 0) : zm_step_1 tx size nodes (d + 1) thn aKnd aPrn aPlc aNpl aSpl aVar aVal aNam aSec aDue aDof (0, plc, pp, tok, att, spl, val) =
    ((zm_bind size 0 plc tok att thn).1, (zm_bind size 0 plc tok att thn).2.1, pp, tok, att, spl, val, nodes, d, (zm_bind size 0 plc tok att thn).2.2, aKnd, aPrn, aPlc, aNpl, upd aSpl (aDof d).toNatClampNeg (nI att), aVar, aVal, aNam, vp_updL aSec (aDof d).toNatClampNeg spl, aDue, aDof) := by
  have h : aDue d = 6 := h
  simp only [zm_step_1, Nat.add_sub_cancel, h, hg, if_neg hc, zq_mustT size plc h4 att, zm_step_17, zm_step_18]; rfl
theorem zq_bindT {v : Nat} (hv : v < 24) (h4 : ¬ tok = 4) : zm_bind size 0 plc tok att (nI v) = (0, plc, nI (v + 1)) := by
  rw [zm_bind, if_neg (show ¬ (24 : Int32) ≤ nI v by intro g; have := (zq_le (m := 24) (by omega) (by omega)).1 g; omega), zq_mustT size plc h4 att, if_pos rfl]
  exact congrArg (fun x => ((0 : Int32), plc, x)) (zq_add v 1)
theorem zq_bindF {v : Nat} (hv : ¬ v < 24) (hv2 : v < 10000) (h4 : ¬ tok = 4) : (zm_bind size 0 plc tok att (nI v)).1 = 2 ∧ (zm_bind size 0 plc tok att (nI v)).2.1 = nI att := by
  rw [zm_bind, if_pos (show (24 : Int32) ≤ nI v from (zq_le (m := 24) (by omega) (by omega)).2 (by omega)), zq_mustF size plc h4 att, if_neg Bool.false_ne_true]
  exact ⟨rfl, rfl⟩
theorem zq_letT {v : Nat} (hv : v < 24) (h4 : ¬ tok = 4) {o : Int32} {l : List (Nat × Int32)} (h : zq_stk aDue aDof l d) : (zm_letBinds size 0 plc tok att d (nI v) aDue aDof o).1 = 0 ∧ (zm_letBinds size 0 plc tok att d (nI v) aDue aDof o).2.1 = plc ∧ zq_pu ((1, o) :: (10, o) :: l) (zm_letBinds size 0 plc tok att d (nI v) aDue aDof o).2.2 := by
  rw [zm_letBinds, if_neg (show ¬ (24 : Int32) ≤ nI v by intro g; have := (zq_le (m := 24) (by omega) (by omega)).1 g; omega), zq_mustT size plc h4 att, if_pos rfl]
  exact ⟨rfl, rfl, zq_push 1 (by decide) o (zq_push (u := (d, aDue, aDof)) 10 (by decide) o h)⟩
theorem zq_letF {v : Nat} (hv : ¬ v < 24) (hv2 : v < 10000) (h4 : ¬ tok = 4) {o : Int32} : (zm_letBinds size 0 plc tok att d (nI v) aDue aDof o).1 = 2 ∧ (zm_letBinds size 0 plc tok att d (nI v) aDue aDof o).2.1 = nI att ∧ (zm_letBinds size 0 plc tok att d (nI v) aDue aDof o).2.2.1 = d := by
  rw [zm_letBinds, if_pos (show (24 : Int32) ≤ nI v from (zq_le (m := 24) (by omega) (by omega)).2 (by omega)), zq_mustF size plc h4 att, if_neg Bool.false_ne_true]
  exact ⟨rfl, rfl, rfl⟩
end
section
variable {tx : Nat → Nat} {size : Nat} {plc : Int32} {pp : Nat} {tok : Int32} {att : Nat} {spl : Int64} {val : Int32} {nodes d : Nat} {thn : Int32} {aKnd aPrn aPlc aNpl aSpl aVar aVal : Nat → Int32} {aNam aSec : Nat → Int64} {aDue aDof : Nat → Int32} {st : Bool} {o : Int32}
theorem zq_bN : zm_step_2 thn (zm_begin tx size 0 plc pp 3 att spl val nodes d thn aKnd aPrn aPlc aNpl aSpl aVar aVal aNam aSec aDue aDof true o) =
    (0, plc, pp, 3, att, spl, val, nodes + 1, d, thn, upd aKnd nodes 0, upd aPrn nodes o, upd aPlc nodes (nI att), upd aNpl nodes (-1), upd aSpl nodes (-1), upd aVar nodes thn, upd (upd aVal nodes 0) nodes val, vp_updL aNam nodes 0, vp_updL aSec nodes 0, aDue, aDof) := by
  simp only [zm_begin, zm_begin_58, zm_make]; rfl
theorem zq_bV (h3 : ¬ tok = 3) (ho : zm_isOwn tx pp tok att = true) (hn : nodes < 10000) : zm_step_2 thn (zm_begin tx size 0 plc pp tok att spl val nodes d thn aKnd aPrn aPlc aNpl aSpl aVar aVal aNam aSec aDue aDof true o) =
    (0, plc, pp, tok, att, spl, val, nodes + 1, d, thn, upd aKnd nodes 1, upd aPrn nodes o, upd aPlc nodes (nI att), upd (upd aNpl nodes (-1)) nodes (nI att), upd aSpl nodes (-1), upd aVar nodes thn, upd aVal nodes 0, vp_updL (vp_updL aNam nodes 0) nodes spl, vp_updL aSec nodes 0, aDue, aDof) := by
  simp only [zm_begin, if_neg h3, ho, zm_begin_38, zm_begin_39, zm_make, zm_setNameI, zq_cl (show nodes < 2147483648 by omega)]; rfl
theorem zq_bL (h3 : ¬ tok = 3) (ho : zm_isOwn tx pp tok att = false) (hl : zm_is tx pp tok att 33 = true) : zm_step_2 thn (zm_begin tx size 0 plc pp tok att spl val nodes d thn aKnd aPrn aPlc aNpl aSpl aVar aVal aNam aSec aDue aDof true o) =
    (0, plc, pp, tok, att, spl, val, nodes + 1, d, thn, upd aKnd nodes 2, upd aPrn nodes o, upd aPlc nodes (nI att), upd aNpl nodes (-1), upd aSpl nodes (-1), upd aVar nodes thn, upd aVal nodes 0, vp_updL aNam nodes 0, vp_updL aSec nodes 0, aDue, aDof) := by
  simp only [zm_begin, if_neg h3, ho, hl, zm_begin_37, zm_make]; rfl
theorem zq_bF (hs : st = true → ¬ tok = 3 ∧ zm_isOwn tx pp tok att = false ∧ zm_is tx pp tok att 33 = false) (h0 : ¬ tok = 0) :
    zm_step_2 thn (zm_begin tx size 0 plc pp tok att spl val nodes d thn aKnd aPrn aPlc aNpl aSpl aVar aVal aNam aSec aDue aDof st o) =
    (if tok = 4 then 3 else 2, if tok = 4 then nI size else nI att, pp, tok, att, spl, val, nodes, d, thn, aKnd, aPrn, aPlc, aNpl, aSpl, aVar, aVal, aNam, aSec, aDue, aDof) := by
  cases st
  · by_cases h3 : tok = 3
    · subst h3
      simp only [zm_begin, zq_mustF size plc (show ¬ (3 : Int32) = 4 by decide) att, zm_begin_40]; rfl
    · by_cases h4 : tok = 4
      · subst h4
        simp only [zm_begin, zq_must4, zm_begin_1]; rfl
      · simp only [zm_begin, if_neg h3, if_neg h0, if_neg h4, zq_mustF size plc h4 att, zm_begin_1]; rfl
  · obtain ⟨h3, hown, hnil⟩ := hs rfl
    by_cases h4 : tok = 4
    · subst h4
      simp only [zm_begin, hown, hnil, zq_must4, zm_begin_19]; rfl
    · simp only [zm_begin, if_neg h3, if_neg h0, if_neg h4, hown, hnil, zq_mustF size plc h4 att, zm_begin_19]; rfl
def zq_kd (st : Bool) (tx : Nat → Nat) (pp : Nat) (tok : Int32) (att : Nat) : Int32 := if st = true then zm_stableKind tx pp tok att else zm_changeableKind tx pp tok att
theorem zq_bO {u : Int32 × Int32 × Nat × Int32 × Nat × Int64 × Int32} (hu : zm_next tx size 0 plc pp 0 spl val = u) :
    (u.1 = 1 → (zm_step_2 thn (zm_begin tx size 0 plc pp 0 att spl val nodes d thn aKnd aPrn aPlc aNpl aSpl aVar aVal aNam aSec aDue aDof st o)).1 = 1 ∧ (zm_step_2 thn (zm_begin tx size 0 plc pp 0 att spl val nodes d thn aKnd aPrn aPlc aNpl aSpl aVar aVal aNam aSec aDue aDof st o)).2.1 = u.2.1 ∧ (zm_step_2 thn (zm_begin tx size 0 plc pp 0 att spl val nodes d thn aKnd aPrn aPlc aNpl aSpl aVar aVal aNam aSec aDue aDof st o)).2.2.1 = u.2.2.1 ∧ (zm_step_2 thn (zm_begin tx size 0 plc pp 0 att spl val nodes d thn aKnd aPrn aPlc aNpl aSpl aVar aVal aNam aSec aDue aDof st o)).2.2.2.2.2.2.2.2.1 = d) ∧
    (u.1 = 0 → zq_kd st tx u.2.2.1 u.2.2.2.1 u.2.2.2.2.1 < 0 → (zm_step_2 thn (zm_begin tx size 0 plc pp 0 att spl val nodes d thn aKnd aPrn aPlc aNpl aSpl aVar aVal aNam aSec aDue aDof st o)).1 = (if u.2.2.2.1 = 4 then 3 else 2) ∧ (zm_step_2 thn (zm_begin tx size 0 plc pp 0 att spl val nodes d thn aKnd aPrn aPlc aNpl aSpl aVar aVal aNam aSec aDue aDof st o)).2.1 = (if u.2.2.2.1 = 4 then nI size else nI u.2.2.2.2.1) ∧ (zm_step_2 thn (zm_begin tx size 0 plc pp 0 att spl val nodes d thn aKnd aPrn aPlc aNpl aSpl aVar aVal aNam aSec aDue aDof st o)).2.2.1 = u.2.2.1 ∧ (zm_step_2 thn (zm_begin tx size 0 plc pp 0 att spl val nodes d thn aKnd aPrn aPlc aNpl aSpl aVar aVal aNam aSec aDue aDof st o)).2.2.2.2.2.2.2.2.1 = d) ∧
    (u.1 = 0 → ¬ u.2.2.2.1 = 4 → ¬ zq_kd st tx u.2.2.1 u.2.2.2.1 u.2.2.2.2.1 < 0 → zm_step_2 thn (zm_begin tx size 0 plc pp 0 att spl val nodes d thn aKnd aPrn aPlc aNpl aSpl aVar aVal aNam aSec aDue aDof st o) =
      (0, u.2.1, u.2.2.1, u.2.2.2.1, u.2.2.2.2.1, u.2.2.2.2.2.1, u.2.2.2.2.2.2, nodes + 1, (zm_expect d (upd (upd aKnd nodes 0) nodes (zq_kd st tx u.2.2.1 u.2.2.2.1 u.2.2.2.2.1)) aDue aDof nodes).1, thn, upd (upd aKnd nodes 0) nodes (zq_kd st tx u.2.2.1 u.2.2.2.1 u.2.2.2.2.1), upd aPrn nodes o, upd aPlc nodes (nI att), upd aNpl nodes (-1), upd aSpl nodes (-1), upd aVar nodes thn, upd aVal nodes 0, vp_updL aNam nodes 0, vp_updL aSec nodes 0, (zm_expect d (upd (upd aKnd nodes 0) nodes (zq_kd st tx u.2.2.1 u.2.2.2.1 u.2.2.2.2.1)) aDue aDof nodes).2.1, (zm_expect d (upd (upd aKnd nodes 0) nodes (zq_kd st tx u.2.2.1 u.2.2.2.1 u.2.2.2.2.1)) aDue aDof nodes).2.2)) := by
  obtain ⟨f', plc', pp', tok', att', spl', val'⟩ := u
  have own0 : zm_isOwn tx pp 0 att = false := if_neg (by decide)
  have nil0 : zm_is tx pp 0 att 33 = false := if_neg (by decide)
  have mt : zm_must size 0 plc 0 att true = (true, 0, plc) := zq_mustT size plc (by decide) att
  have mf : zm_must size 1 plc' tok' att' false = (false, 1, plc') := rfl
  cases st
  · simp only [zq_kd, Bool.false_eq_true, if_false]
    refine ⟨?_, ?_, ?_⟩
    · rintro rfl
      simp only [zm_begin, mt, hu, mf, zm_begin_10, zm_begin_11, zm_begin_12, zm_begin_17]
      exact ⟨rfl, rfl, rfl, rfl⟩
    · rintro rfl hk
      by_cases h4 : tok' = 4
      · subst h4
        simp only [zm_begin, mt, hu, zq_must4, zm_begin_10, zm_begin_11, zm_begin_12, if_pos hk, zm_begin_13]
        exact ⟨rfl, rfl, rfl, rfl⟩
      · simp only [zm_begin, mt, hu, zq_mustF size plc' h4 att', zm_begin_10, zm_begin_11, zm_begin_12, if_pos hk, zm_begin_13, if_neg h4]
        exact ⟨rfl, rfl, rfl, rfl⟩
    · rintro rfl h4 hk
      simp only [zm_begin, mt, hu, zq_mustT size plc' h4 att', zm_begin_10, zm_begin_11, zm_begin_12, if_neg hk, zm_begin_15, zm_begin_16]
      rfl
  · simp only [zq_kd, if_true]
    refine ⟨?_, ?_, ?_⟩
    · rintro rfl
      simp only [zm_begin, mt, hu, mf, own0, nil0, zm_begin_28, zm_begin_29, zm_begin_30, zm_begin_35]
      exact ⟨rfl, rfl, rfl, rfl⟩
    · rintro rfl hk
      by_cases h4 : tok' = 4
      · subst h4
        simp only [zm_begin, mt, hu, zq_must4, own0, nil0, zm_begin_28, zm_begin_29, zm_begin_30, if_pos hk, zm_begin_31]
        exact ⟨rfl, rfl, rfl, rfl⟩
      · simp only [zm_begin, mt, hu, zq_mustF size plc' h4 att', own0, nil0, zm_begin_28, zm_begin_29, zm_begin_30, if_pos hk, zm_begin_31, if_neg h4]
        exact ⟨rfl, rfl, rfl, rfl⟩
    · rintro rfl h4 hk
      simp only [zm_begin, mt, hu, zq_mustT size plc' h4 att', own0, nil0, zm_begin_28, zm_begin_29, zm_begin_30, if_neg hk, zm_begin_33, zm_begin_34]
      rfl
end
theorem zq_set {α : Type} {w r nr c : Nat} (hr : r < nr) (hn : nr < 100000) (hc : c < w) (hw : w ≤ 20) (num : Nat → Nat → α) (v : α) : zr_set w nr num (nI r) (nI c) v = zr_up num r c v := by
  rw [zr_set, if_neg (zq_nn (by omega)), if_neg (fun g => by have := (zq_le (by omega) (by omega)).1 g; omega), if_neg (zq_nn (by omega)), if_neg (fun g => by have := (zq_le (by omega) (by omega)).1 g; omega), zq_cl (by omega), zq_cl (by omega)]
theorem zq_num_ {w r nr c : Nat} (hr : r < nr) (hn : nr < 100000) (hc : c < w) (hw : w ≤ 20) (num : Nat → Nat → Int32) : zr_num w nr num (nI r) (nI c) = num r c := by
  rw [zr_num, if_neg (zq_nn (by omega)), if_neg (fun g => by have := (zq_le (by omega) (by omega)).1 g; omega), if_neg (zq_nn (by omega)), if_neg (fun g => by have := (zq_le (by omega) (by omega)).1 g; omega), zq_cl (by omega), zq_cl (by omega)]
theorem zq_nam_ {w r nr c : Nat} (hr : r < nr) (hn : nr < 100000) (hc : c < w) (hw : w ≤ 20) (num : Nat → Nat → Int64) : zr_nam w nr num (nI r) (nI c) = num r c := by
  rw [zr_nam, if_neg (zq_nn (by omega)), if_neg (fun g => by have := (zq_le (by omega) (by omega)).1 g; omega), if_neg (zq_nn (by omega)), if_neg (fun g => by have := (zq_le (by omega) (by omega)).1 g; omega), zq_cl (by omega), zq_cl (by omega)]
def zq_par (nnum : Nat → Nat → Int32) (wa : Int32) (n : Nat) : Nat → Nat → Int32 := if wa = 42 then zr_up nnum n 1 (nnum n 1 + 1) else zr_up (zr_up nnum n 1 (nnum n 1 + 1)) n 9 (nnum n 9 + 1)
def zq_nw (P : Nat → Nat → Int32) (nr : Nat) (kind pl o v : Int32) : Nat → Nat → Int32 := zr_up (zr_up (zr_up (zr_up (zr_up (zr_new P nr (-1)) nr 0 kind) nr 1 0) nr 3 pl) nr 4 o) nr 7 v
section
variable {place dr nr nc : Nat} {dnum nnum : Nat → Nat → Int32} {nnam : Nat → Nat → Int64} {latest wa kind : Int32} {n : Nat} {token word value stage : Int32} {name : Int64}
theorem zq_addT (hr : nr < 90000) : zp_addNode place dr dnum nr nc nnum nnam latest (-1) wa kind = (nI nr, nr + 1, zr_cap nr nc, zq_nw nnum nr kind (nI place) (-1) (zp_variablesHere dr dnum nr nnum latest (-1) wa), zr_new nnam nr 0) := by
  rw [zp_addNode, if_pos rfl]
  have e := fun (c : Nat) (hc : c < 10) (f : Nat → Nat → Int32) (v : Int32) => zq_set (w := 10) (r := nr) (nr := nr + 1) (c := c) (by omega) (by omega) hc (by omega) f v
  have e0 := e 0 (by omega); have e1 := e 1 (by omega); have e3 := e 3 (by omega); have e4 := e 4 (by omega); have e7 := e 7 (by omega)
  change ∀ f v, zr_set 10 (nr + 1) f (nI nr) 0 v = _ at e0
  change ∀ f v, zr_set 10 (nr + 1) f (nI nr) 1 v = _ at e1
  change ∀ f v, zr_set 10 (nr + 1) f (nI nr) 3 v = _ at e3
  change ∀ f v, zr_set 10 (nr + 1) f (nI nr) 4 v = _ at e4
  change ∀ f v, zr_set 10 (nr + 1) f (nI nr) 7 v = _ at e7
  rw [e0, e1, e3, e4, e7]; rfl
theorem zq_addN (hn : n < nr) (hr : nr < 90000) : zp_addNode place dr dnum nr nc nnum nnam latest (nI n) wa kind = (nI nr, nr + 1, zr_cap nr nc, zq_nw (zq_par nnum wa n) nr kind (nI place) (nI n) (zp_variablesHere dr dnum nr nnum latest (nI n) wa), zr_new nnam nr 0) := by
  have e := fun (c : Nat) (hc : c < 10) (f : Nat → Nat → Int32) (v : Int32) => zq_set (w := 10) (r := nr) (nr := nr + 1) (c := c) (by omega) (by omega) hc (by omega) f v
  have e0 := e 0 (by omega); have e1 := e 1 (by omega); have e3 := e 3 (by omega); have e4 := e 4 (by omega); have e7 := e 7 (by omega)
  change ∀ f v, zr_set 10 (nr + 1) f (nI nr) 0 v = _ at e0
  change ∀ f v, zr_set 10 (nr + 1) f (nI nr) 1 v = _ at e1
  change ∀ f v, zr_set 10 (nr + 1) f (nI nr) 3 v = _ at e3
  change ∀ f v, zr_set 10 (nr + 1) f (nI nr) 4 v = _ at e4
  change ∀ f v, zr_set 10 (nr + 1) f (nI nr) 7 v = _ at e7
  have s1 : ∀ (f : Nat → Nat → Int32) (v : Int32), zr_set 10 nr f (nI n) 1 v = zr_up f n 1 v := fun f v => zq_set (c := 1) hn (by omega) (by omega) (by omega) f v
  have s9 : ∀ (f : Nat → Nat → Int32) (v : Int32), zr_set 10 nr f (nI n) 9 v = zr_up f n 9 v := fun f v => zq_set (c := 9) hn (by omega) (by omega) (by omega) f v
  have n1 : ∀ f, zr_num 10 nr f (nI n) 1 = f n 1 := fun f => zq_num_ (c := 1) hn (by omega) (by omega) (by omega) f
  have n9 : ∀ f, zr_num 10 nr f (nI n) 9 = f n 9 := fun f => zq_num_ (c := 9) hn (by omega) (by omega) (by omega) f
  rw [zp_addNode, if_neg (zq_n1 (by omega))]
  by_cases hw : wa = 42
  · rw [if_pos hw, e0, e1, e3, e4, e7, s1, n1, zq_par, if_pos hw]; rfl
  · rw [if_neg hw, e0, e1, e3, e4, e7, zp_goOn, s1, n1, s9, n9, zq_par, if_neg hw]
    have : zr_up nnum n 1 (nnum n 1 + 1) n 9 = nnum n 9 := if_neg (by omega)
    rw [this]; rfl
def zq_P (nnum : Nat → Nat → Int32) (wa : Int32) : Option Nat → Nat → Nat → Int32
  | none => nnum
  | some n => zq_par nnum wa n
def zq_op : Option Nat → Int32
  | none => -1
  | some n => nI n
theorem zq_add_ {o : Option Nat} (ho : ∀ n, o = some n → n < nr) (hr : nr < 90000) : zp_addNode place dr dnum nr nc nnum nnam latest (zq_op o) wa kind = (nI nr, nr + 1, zr_cap nr nc, zq_nw (zq_P nnum wa o) nr kind (nI place) (zq_op o) (zp_variablesHere dr dnum nr nnum latest (zq_op o) wa), zr_new nnam nr 0) := by
  cases o with
  | none => exact zq_addT hr
  | some n => exact zq_addN (ho n rfl) hr
theorem zq_bEo {o : Option Nat} (ho : ∀ n, o = some n → n < nr) (hr : nr < 90000) : zp_beginsE 2 place name word value dr dnum nr nc nnum nnam stage latest (zq_op o) wa = (true, nr + 1, zr_cap nr nc, zq_nw (zq_P nnum wa o) nr (-1) (nI place) (zq_op o) (zp_variablesHere dr dnum nr nnum latest (zq_op o) wa), zr_new nnam nr 0, 10, nI nr) := by
  rw [zp_beginsE, if_pos rfl, zq_add_ ho hr]
theorem zq_bCo {o : Option Nat} (ho : ∀ n, o = some n → n < nr) (hr : nr < 90000) : zp_beginsC 2 place dr dnum nr nc nnum nnam stage latest (zq_op o) wa = (true, nr + 1, zr_cap nr nc, zq_nw (zq_P nnum wa o) nr (-1) (nI place) (zq_op o) (zp_variablesHere dr dnum nr nnum latest (zq_op o) wa), zr_new nnam nr 0, 11, nI nr) := by
  rw [zp_beginsC, if_pos rfl, zq_add_ ho hr]
theorem zq_bCn (h : ¬ token = 2) {op : Int32} : zp_beginsC token place dr dnum nr nc nnum nnam stage latest op wa = (false, nr, nc, nnum, nnam, stage, op) := if_neg h
theorem zq_bEn (h : ¬ token = 2) (hk : zp_kindOfLeaf token word = -1) {op : Int32} : zp_beginsE token place name word value dr dnum nr nc nnum nnam stage latest op wa = (false, nr, nc, nnum, nnam, stage, op) := by
  rw [zp_beginsE, if_neg h, if_pos hk]
theorem zq_bE0 {o : Option Nat} (ho : ∀ n, o = some n → n < nr) (hr : nr < 90000) (h : ¬ token = 2) (hk : zp_kindOfLeaf token word = 0) : zp_beginsE token place name word value dr dnum nr nc nnum nnam stage latest (zq_op o) wa = (true, nr + 1, zr_cap nr nc, zr_up (zr_up (zq_nw (zq_P nnum wa o) nr 0 (nI place) (zq_op o) (zp_variablesHere dr dnum nr nnum latest (zq_op o) wa)) nr 2 1) nr 8 value, zr_new nnam nr 0, zp_goOutTo (zq_op o)) := by
  have e := fun (c : Nat) (hc : c < 10) (f : Nat → Nat → Int32) (v : Int32) => zq_set (w := 10) (r := nr) (nr := nr + 1) (c := c) (by omega) (by omega) hc (by omega) f v
  have e2 := e 2 (by omega); have e8 := e 8 (by omega)
  change ∀ f v, zr_set 10 (nr + 1) f (nI nr) 2 v = _ at e2
  change ∀ f v, zr_set 10 (nr + 1) f (nI nr) 8 v = _ at e8
  simp only [zp_beginsE, if_neg h, hk, zq_add_ ho hr, e2, e8]; rfl
theorem zq_bE1 {o : Option Nat} (ho : ∀ n, o = some n → n < nr) (hr : nr < 90000) (h : ¬ token = 2) (hk : zp_kindOfLeaf token word = 1) : zp_beginsE token place name word value dr dnum nr nc nnum nnam stage latest (zq_op o) wa = (true, nr + 1, zr_cap nr nc, zr_up (zr_up (zq_nw (zq_P nnum wa o) nr 1 (nI place) (zq_op o) (zp_variablesHere dr dnum nr nnum latest (zq_op o) wa)) nr 2 1) nr 5 (nI place), zr_up (zr_new nnam nr 0) nr 0 name, zp_goOutTo (zq_op o)) := by
  have e := fun (c : Nat) (hc : c < 10) (f : Nat → Nat → Int32) (v : Int32) => zq_set (w := 10) (r := nr) (nr := nr + 1) (c := c) (by omega) (by omega) hc (by omega) f v
  have e2 := e 2 (by omega); have e5 := e 5 (by omega)
  change ∀ f v, zr_set 10 (nr + 1) f (nI nr) 2 v = _ at e2
  change ∀ f v, zr_set 10 (nr + 1) f (nI nr) (5 + 0) v = _ at e5
  have f0 : ∀ (f : Nat → Nat → Int64) (v : Int64), zr_set 2 (nr + 1) f (nI nr) 0 v = zr_up f nr 0 v := fun f v => zq_set (c := 0) (by omega) (by omega) (by omega) (by omega) f v
  simp only [zp_beginsE, if_neg h, hk, zq_add_ ho hr, e2, zp_setNodeName, e5, f0]; rfl
theorem zq_bE2 {o : Option Nat} (ho : ∀ n, o = some n → n < nr) (hr : nr < 90000) (h : ¬ token = 2) (hk : zp_kindOfLeaf token word = 2) : zp_beginsE token place name word value dr dnum nr nc nnum nnam stage latest (zq_op o) wa = (true, nr + 1, zr_cap nr nc, zr_up (zq_nw (zq_P nnum wa o) nr 2 (nI place) (zq_op o) (zp_variablesHere dr dnum nr nnum latest (zq_op o) wa)) nr 2 1, zr_new nnam nr 0, zp_goOutTo (zq_op o)) := by
  have e := fun (c : Nat) (hc : c < 10) (f : Nat → Nat → Int32) (v : Int32) => zq_set (w := 10) (r := nr) (nr := nr + 1) (c := c) (by omega) (by omega) hc (by omega) f v
  have e2 := e 2 (by omega)
  change ∀ f v, zr_set 10 (nr + 1) f (nI nr) 2 v = _ at e2
  simp only [zp_beginsE, if_neg h, hk, zq_add_ ho hr, e2]; rfl
theorem zq_head (hr : nr < 90000) {k : Nat} (hn : n < nr) (hk : k < 24) : zp_takesHead nr nnum stage (nI n) (nI k) = (true, zr_up (zr_up nnum n 0 (nI k)) n 9 0, 12) := by
  have s0 : ∀ (f : Nat → Nat → Int32) (v : Int32), zr_set 10 nr f (nI n) 0 v = zr_up f n 0 v := fun f v => zq_set (c := 0) hn (by omega) (by omega) (by omega) f v
  have s9 : ∀ (f : Nat → Nat → Int32) (v : Int32), zr_set 10 nr f (nI n) 9 v = zr_up f n 9 v := fun f v => zq_set (c := 9) hn (by omega) (by omega) (by omega) f v
  rw [zp_takesHead, if_neg (zq_n1 (by omega)), s0, s9]
theorem zq_ends (hr : nr < 90000) (hn : n < nr) : zp_endsNode nr nnum (nI n) = (true, zr_up nnum n 2 (nI nr - nI n), zp_goOutTo (nnum n 4)) := by
  have s2 : ∀ (f : Nat → Nat → Int32) (v : Int32), zr_set 10 nr f (nI n) 2 v = zr_up f n 2 v := fun f v => zq_set (c := 2) hn (by omega) (by omega) (by omega) f v
  have n4 : ∀ f, zr_num 10 nr f (nI n) 4 = f n 4 := fun f => zq_num_ (c := 4) hn (by omega) (by omega) (by omega) f
  rw [zp_endsNode, s2, n4]
  have : zr_up nnum n 2 (nI nr - nI n) n 4 = nnum n 4 := if_neg (by omega)
  rw [this]
theorem zq_goOn (hr : nr < 90000) (hn : n < nr) : zp_goOn nr nnum (nI n) = zr_up nnum n 9 (nnum n 9 + 1) := by
  have s9 : ∀ (f : Nat → Nat → Int32) (v : Int32), zr_set 10 nr f (nI n) 9 v = zr_up f n 9 v := fun f v => zq_set (c := 9) hn (by omega) (by omega) (by omega) f v
  have n9 : ∀ f, zr_num 10 nr f (nI n) 9 = f n 9 := fun f => zq_num_ (c := 9) hn (by omega) (by omega) (by omega) f
  rw [zp_goOn, s9, n9]
theorem zq_tkn (hr : nr < 90000) (hn : n < nr) {i : Nat} (hi : i < 2) : zp_takesName token place name word nr nnum nnam (nI n) (nI i) = if zp_isFreeName token word = true then (true, zr_up (zr_up nnum n (5 + i) (nI place)) n 9 (nnum n 9 + 1), zr_up nnam n i name) else (false, nnum, nnam) := by
  have s5 : ∀ (f : Nat → Nat → Int32) (v : Int32), zr_set 10 nr f (nI n) (nI (5 + i)) v = zr_up f n (5 + i) v := fun f v => zq_set hn (by omega) (by omega) (by omega) f v
  have e5 : (5 : Int32) + nI i = nI (5 + i) := zq_add 5 i
  have f0 : ∀ (f : Nat → Nat → Int64) (v : Int64), zr_set 2 nr f (nI n) (nI i) v = zr_up f n i v := fun f v => zq_set hn (by omega) hi (by omega) f v
  rw [zp_takesName, zp_setNodeName, e5, s5, f0, zq_goOn hr hn]
  have : zr_up nnum n (5 + i) (nI place) n 9 = nnum n 9 := if_neg (by omega)
  show (if zp_isFreeName token word = true then (true, zr_up (zr_up nnum n (5 + i) (nI place)) n 9 (zr_up nnum n (5 + i) (nI place) n 9 + 1), zr_up nnam n i name) else (false, nnum, nnam)) = _
  rw [this]
theorem zq_ts {k s : Nat} (hr : nr < 90000) (hn : n < nr) (h0 : nnum n 0 = nI k) (h9 : nnum n 9 = nI s) (ho : zq_ok k s) : zp_takesStep token place name word value dr dnum nr nc nnum nnam stage latest (nI n) =
    if zq_ch k s = 46 then (if token = 3 then (true, nr, nc, zr_up nnum n 2 (nI nr - nI n), nnam, (zp_goOutTo (nnum n 4)).1, (zp_goOutTo (nnum n 4)).2, 46) else (false, nr, nc, nnum, nnam, stage, nI n, 46))
    else if zq_ch k s = 40 then ((zp_passesInside token nr nnum (nI n) 2).1, nr, nc, (zp_passesInside token nr nnum (nI n) 2).2, nnam, stage, nI n, 40)
    else if zq_ch k s = 41 then ((zp_passesInside token nr nnum (nI n) 3).1, nr, nc, (zp_passesInside token nr nnum (nI n) 3).2, nnam, stage, nI n, 41)
    else if zq_ch k s = 42 then (if token = 3 then (true, nr, nc, zr_up nnum n 2 (nI nr - nI n), nnam, (zp_goOutTo (nnum n 4)).1, (zp_goOutTo (nnum n 4)).2, 42) else
      ((zp_beginsE token place name word value dr dnum nr nc nnum nnam stage latest (nI n) 42).1, (zp_beginsE token place name word value dr dnum nr nc nnum nnam stage latest (nI n) 42).2.1, (zp_beginsE token place name word value dr dnum nr nc nnum nnam stage latest (nI n) 42).2.2.1, (zp_beginsE token place name word value dr dnum nr nc nnum nnam stage latest (nI n) 42).2.2.2.1, (zp_beginsE token place name word value dr dnum nr nc nnum nnam stage latest (nI n) 42).2.2.2.2.1, (zp_beginsE token place name word value dr dnum nr nc nnum nnam stage latest (nI n) 42).2.2.2.2.2.1, (zp_beginsE token place name word value dr dnum nr nc nnum nnam stage latest (nI n) 42).2.2.2.2.2.2, 42))
    else if zq_ch k s = 70 then ((zp_takesName token place name word nr nnum nnam (nI n) 0).1, nr, nc, (zp_takesName token place name word nr nnum nnam (nI n) 0).2.1, (zp_takesName token place name word nr nnum nnam (nI n) 0).2.2, stage, nI n, 70)
    else if zq_ch k s = 88 then ((zp_takesVariable token place name word nr nnum nnam (nI n) 0).1, nr, nc, (zp_takesVariable token place name word nr nnum nnam (nI n) 0).2.1, (zp_takesVariable token place name word nr nnum nnam (nI n) 0).2.2, stage, nI n, 88)
    else if zq_ch k s = 89 then ((zp_takesVariable token place name word nr nnum nnam (nI n) 1).1, nr, nc, (zp_takesVariable token place name word nr nnum nnam (nI n) 1).2.1, (zp_takesVariable token place name word nr nnum nnam (nI n) 1).2.2, stage, nI n, 89)
    else if zq_ch k s = 69 ∨ zq_ch k s = 101 then ((zp_beginsE token place name word value dr dnum nr nc nnum nnam stage latest (nI n) (zq_ch k s)).1, (zp_beginsE token place name word value dr dnum nr nc nnum nnam stage latest (nI n) (zq_ch k s)).2.1, (zp_beginsE token place name word value dr dnum nr nc nnum nnam stage latest (nI n) (zq_ch k s)).2.2.1, (zp_beginsE token place name word value dr dnum nr nc nnum nnam stage latest (nI n) (zq_ch k s)).2.2.2.1, (zp_beginsE token place name word value dr dnum nr nc nnum nnam stage latest (nI n) (zq_ch k s)).2.2.2.2.1, (zp_beginsE token place name word value dr dnum nr nc nnum nnam stage latest (nI n) (zq_ch k s)).2.2.2.2.2.1, (zp_beginsE token place name word value dr dnum nr nc nnum nnam stage latest (nI n) (zq_ch k s)).2.2.2.2.2.2, zq_ch k s)
    else ((zp_beginsC token place dr dnum nr nc nnum nnam stage latest (nI n) (zq_ch k s)).1, (zp_beginsC token place dr dnum nr nc nnum nnam stage latest (nI n) (zq_ch k s)).2.1, (zp_beginsC token place dr dnum nr nc nnum nnam stage latest (nI n) (zq_ch k s)).2.2.1, (zp_beginsC token place dr dnum nr nc nnum nnam stage latest (nI n) (zq_ch k s)).2.2.2.1, (zp_beginsC token place dr dnum nr nc nnum nnam stage latest (nI n) (zq_ch k s)).2.2.2.2.1, (zp_beginsC token place dr dnum nr nc nnum nnam stage latest (nI n) (zq_ch k s)).2.2.2.2.2.1, (zp_beginsC token place dr dnum nr nc nnum nnam stage latest (nI n) (zq_ch k s)).2.2.2.2.2.2, zq_ch k s) := by
  have n9 : zr_num 10 nr nnum (nI n) 9 = nI s := (zq_num_ (c := 9) hn (by omega) (by omega) (by omega) nnum).trans h9
  have n0 : zr_num 10 nr nnum (nI n) 0 = nI k := (zq_num_ (c := 0) hn (by omega) (by omega) (by omega) nnum).trans h0
  obtain ⟨hs8, hk24⟩ := zq_ok8 ho
  have t := zq_tpp k hk24 s hs8 ho
  have tc := zq_tch k hk24 s hs8 ho
  have hlen : ∀ k : Nat, k < 24 → zq_len k < 8 := by decide +kernel
  have hl := hlen k hk24
  rw [zp_takesStep, n9, n0, if_neg (zq_nn (by omega)), zq_ends hr hn]
  change (if nI (zq_len k) ≤ nI s then _ else _) = _
  by_cases hs : zq_len k ≤ s
  · rw [if_pos ((zq_le (by omega) (by omega)).2 hs), if_pos (t.2.2.2.1.2 hs)]
    rfl
  · rw [if_neg (fun g => hs ((zq_le (by omega) (by omega)).1 g)), if_neg (fun g => hs (t.2.2.2.1.1 g)), zq_cl (by omega)]
    have ec : zs_ch (zp_shape (nI k)) s = zq_ch k s := (if_pos (by omega)).symm
    rw [ec]
    have h46 : ¬ zq_ch k s = 46 := fun g => hs (t.2.2.2.1.1 g)
    generalize zq_ch k s = c at *
    rcases tc with rfl | rfl | rfl | rfl | rfl | rfl | rfl | rfl | rfl | rfl | rfl
    · simp
    · simp
    · simp
    · simp
    · simp
    · simp
    · simp
    · simp
    · simp
    · simp
    · exact absurd rfl h46
end
