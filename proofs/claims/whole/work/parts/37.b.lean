section HRS
variable {X : XS} {C : CS} {M : MS} {T : TS} {S : SG} {K : Nat} {mu : List Nat}
/-- the Trial's stack -/
def kT (C : CS) (f : Nat → Int32) (v : Int32) : CS := c0 (ca C 5 f) 12 v
theorem kT_1 {f : Nat → Int32} {v : Int32} {k : Nat} (h : k ≠ 12) : (kT C f v).1 k = C.1 k := by unfold kT; rw [c0_1, up_n _ _ h, ca_1]
theorem kT_12 {f : Nat → Int32} {v : Int32} : (kT C f v).1 12 = v := by unfold kT; rw [c0_1, up_s]
theorem kT_5 {f : Nat → Int32} {v : Int32} : (kT C f v).2.1 5 = f := by unfold kT; rw [c0_2, ca_21, up_s]
theorem kT_a {f : Nat → Int32} {v : Int32} {k : Nat} (h : k ≠ 5) : (kT C f v).2.1 k = C.2.1 k := by unfold kT; rw [c0_2, ca_21, up_n _ _ h]
theorem kT_r {f : Nat → Int32} {v : Int32} : (kT C f v).2.2 = C.2.2 := rfl
theorem kT_c0 {f : Nat → Int32} {v w : Int32} : c0 (kT C f v) 12 w = kT C f w := c0c0 _ _ _ _
theorem kT_ca {f g : Nat → Int32} {v : Int32} : ca (kT C f v) 5 g = kT C g v := by unfold kT; rw [ca_c0, caca]
theorem kT_kT {f g : Nat → Int32} {v w : Int32} : kT (kT C f v) g w = kT C g w := by unfold kT; rw [ca_c0, caca, c0c0]
theorem up_id {α : Type} (f : Nat → α) (k : Nat) : up f k (f k) = f := by
  funext j
  by_cases h : j = k
  · subst h; rw [up_s]
  · rw [up_n _ _ h]
theorem ca_id (k : Nat) : ca C k (C.2.1 k) = C := by unfold ca; rw [up_id]
theorem c0_id (k : Nat) : c0 C k (C.1 k) = C := by unfold c0; rw [up_id]
theorem kT_id : kT C (C.2.1 5) (C.1 12) = C := by unfold kT; rw [ca_id, c0_id]
/-- where the Trial stands -/
def St (C : CS) (e : EV) (h : Nat) : Prop := C.1 13 = nI (e_p e) ∧ C.1 14 = nI (e_a e) ∧ C.1 15 = nI (e_t e) ∧ C.1 16 = nI h ∧ C.1 17 = nI (e_g e) ∧ C.1 18 = nI (pcN (e_g e)) ∧ C.1 19 = nI (e_c e) ∧ C.1 20 = nI (e_k e) ∧ C.1 21 = nI (e_l e) ∧ C.1 22 = b01 (e_o e)
theorem St.kT {e : EV} {h : Nat} {f : Nat → Int32} {v : Int32} (s : St C e h) : St (kT C f v) e h := s
theorem k_pop {f : Nat → Int32} {n : Nat} (hn : n < 16) : f_X9_pop (hp X (kT C f (nI (n + 1))) M T) (some 30) = some (f n, hp X (kT C f (nI n)) M T) := by
  have g : (1 : Int32) ≤ nI (n + 1) := by rw [← nI_1']; exact nI_le (by omega) (by omega)
  simp (disch := omega) only [f_X9_pop, b_X9_pop, io_30, gr_30_0, gi_30_1, gi_30_2, gi_30_3, gi_30_4, gi_30_5, gi_30_6, gi_30_7, gi_30_8, gi_30_9, gi_30_10, gi_30_11, pi_30_1, pi_30_2, pi_30_3, pi_30_4, pi_30_5, pi_30_6, pi_30_7, pi_30_8, pi_30_9, pi_30_10, pz_30_11, ln_31, ai_31, si_31, gr_18_0, gr_18_1, gr_18_2, io_18, if_true, if_false, Option.bind_some, i1_ne, nI_1, nI_pred, up_s, up_n, zd_0, zd_1, zc_0, zc_1, kT_12, kT_c0, kT_5, g]
theorem k_push {f : Nat → Int32} {n : Nat} {v : Int32} (hn : n < 16) : f_X9_push (hp X (kT C f (nI n)) M T) (some 30) v = some (hp X (kT C (upd f n v) (nI (n + 1))) M T) := by
  have g : ¬ nI 16 ≤ nI n := nI_ge hn (by decide)
  simp (disch := omega) only [f_X9_push, b_X9_push, io_30, gr_30_0, gi_30_1, gi_30_2, gi_30_3, gi_30_4, gi_30_5, gi_30_6, gi_30_7, gi_30_8, gi_30_9, gi_30_10, gi_30_11, pi_30_1, pi_30_2, pi_30_3, pi_30_4, pi_30_5, pi_30_6, pi_30_7, pi_30_8, pi_30_9, pi_30_10, pz_30_11, ln_31, ai_31, si_31, gr_18_0, gr_18_1, gr_18_2, io_18, if_true, if_false, Option.bind_some, i1_ne, nI_1, nI_pred, up_s, up_n, zd_0, zd_1, zc_0, zc_1, kT_12, kT_c0, kT_ca, kT_5, g]
theorem k_who {e : EV} {h p : Nat} {l : LNV} (s : St C e h) (w : WEv e) (wl : WLn l) (hl : isLn mu T p l) : f_X9_holdsWho (hp X C M T) (some 30) (some p) = some (b01 (whoB e l)) := by
  obtain ⟨b0, b1, b2, b3, b4, b5, b6, -⟩ := ln_all (X := X) (C := C) (M := M) hl
  obtain ⟨s1, s2, s3, s4, s5, s6, s7, s8, s9, s10⟩ := s
  obtain ⟨w1, w2, w3, w4, w5, w6, w7⟩ := w
  obtain ⟨v1, v2, v3, v4, v5, v6, -⟩ := wl
  unfold whoB
  rcases (show l.2.1 = 0 ∨ l.2.1 = 1 ∨ l.2.1 = 2 ∨ l.2.1 = 3 ∨ l.2.1 = 4 by omega) with q | q | q | q | q <;> rw [q] at b2 ⊢
  · simp only [f_X9_holdsWho, b_X9_holdsWho, io_30, gr_30_0, gi_30_1, gi_30_2, gi_30_3, gi_30_4, gi_30_5, gi_30_6, gi_30_7, gi_30_8, gi_30_9, gi_30_10, gi_30_11, pi_30_1, pi_30_2, pi_30_3, pi_30_4, pi_30_5, pi_30_6, pi_30_7, pi_30_8, pi_30_9, pi_30_10, pz_30_11, ln_31, ai_31, si_31, gr_18_0, gr_18_1, gr_18_2, io_18, if_true, if_false, Option.bind_some, i1_ne, nI_1, nI_pred, up_s, up_n, zd_0, zd_1, zc_0, zc_1, b2, nI_0]; rfl
  · have hb := hb_e (nI (e_g e)) (i := l.2.2.1) (by omega)
    rw [bt_nI (by omega)] at hb
    simp only [f_X9_holdsWho, b_X9_holdsWho, io_30, gr_30_0, gi_30_1, gi_30_2, gi_30_3, gi_30_4, gi_30_5, gi_30_6, gi_30_7, gi_30_8, gi_30_9, gi_30_10, gi_30_11, pi_30_1, pi_30_2, pi_30_3, pi_30_4, pi_30_5, pi_30_6, pi_30_7, pi_30_8, pi_30_9, pi_30_10, pz_30_11, ln_31, ai_31, si_31, gr_18_0, gr_18_1, gr_18_2, io_18, if_true, if_false, Option.bind_some, i1_ne, nI_1, nI_pred, up_s, up_n, zd_0, zd_1, zc_0, zc_1, b2, b3, nI_1', s5, hb]
    exact zd_b _
  · simp only [f_X9_holdsWho, b_X9_holdsWho, io_30, gr_30_0, gi_30_1, gi_30_2, gi_30_3, gi_30_4, gi_30_5, gi_30_6, gi_30_7, gi_30_8, gi_30_9, gi_30_10, gi_30_11, pi_30_1, pi_30_2, pi_30_3, pi_30_4, pi_30_5, pi_30_6, pi_30_7, pi_30_8, pi_30_9, pi_30_10, pz_30_11, ln_31, ai_31, si_31, gr_18_0, gr_18_1, gr_18_2, io_18, if_true, if_false, Option.bind_some, i1_ne, nI_1, nI_pred, up_s, up_n, zd_0, zd_1, zc_0, zc_1, b2, b3, nI_2, s1, show ¬ (2 : Int32) = 0 by decide, show ¬ (2 : Int32) = 1 by decide]
    rw [if_eqb (by omega) (by omega), zd_b]; rfl
  · simp only [f_X9_holdsWho, b_X9_holdsWho, io_30, gr_30_0, gi_30_1, gi_30_2, gi_30_3, gi_30_4, gi_30_5, gi_30_6, gi_30_7, gi_30_8, gi_30_9, gi_30_10, gi_30_11, pi_30_1, pi_30_2, pi_30_3, pi_30_4, pi_30_5, pi_30_6, pi_30_7, pi_30_8, pi_30_9, pi_30_10, pz_30_11, ln_31, ai_31, si_31, gr_18_0, gr_18_1, gr_18_2, io_18, if_true, if_false, Option.bind_some, i1_ne, nI_1, nI_pred, up_s, up_n, zd_0, zd_1, zc_0, zc_1, b2, b3, nI_3, s10, show ¬ (3 : Int32) = 0 by decide, show ¬ (3 : Int32) = 1 by decide, show ¬ (3 : Int32) = 2 by decide]
    rw [zd_b]; rfl
  · simp only [f_X9_holdsWho, b_X9_holdsWho, io_30, gr_30_0, gi_30_1, gi_30_2, gi_30_3, gi_30_4, gi_30_5, gi_30_6, gi_30_7, gi_30_8, gi_30_9, gi_30_10, gi_30_11, pi_30_1, pi_30_2, pi_30_3, pi_30_4, pi_30_5, pi_30_6, pi_30_7, pi_30_8, pi_30_9, pi_30_10, pz_30_11, ln_31, ai_31, si_31, gr_18_0, gr_18_1, gr_18_2, io_18, if_true, if_false, Option.bind_some, i1_ne, nI_1, nI_pred, up_s, up_n, zd_0, zd_1, zc_0, zc_1, b2, b3, nI_4, s7, show ¬ (4 : Int32) = 0 by decide, show ¬ (4 : Int32) = 1 by decide, show ¬ (4 : Int32) = 2 by decide, show ¬ (4 : Int32) = 3 by decide]
    rw [if_ltb (by omega) (by omega), zd_b]; rfl
theorem k_what {e : EV} {h p : Nat} {l : LNV} (s : St C e h) (w : WEv e) (wl : WLn l) (hl : isLn mu T p l) : f_X9_holdsWhat (hp X C M T) (some 30) (some p) = some (b01 (whatB e l)) := by
  obtain ⟨b0, b1, b2, b3, b4, b5, b6, -⟩ := ln_all (X := X) (C := C) (M := M) hl
  obtain ⟨s1, s2, s3, s4, s5, s6, s7, s8, s9, s10⟩ := s
  obtain ⟨w1, w2, w3, w4, w5, w6, w7⟩ := w
  obtain ⟨v1, v2, v3, v4, v5, v6, -⟩ := wl
  unfold whatB
  rcases (show l.2.2.2.2.1 = 0 ∨ l.2.2.2.2.1 = 1 ∨ l.2.2.2.2.1 = 2 ∨ l.2.2.2.2.1 = 3 by omega) with q | q | q | q <;> rw [q] at b5 ⊢
  · simp only [f_X9_holdsWhat, b_X9_holdsWhat, io_30, gr_30_0, gi_30_1, gi_30_2, gi_30_3, gi_30_4, gi_30_5, gi_30_6, gi_30_7, gi_30_8, gi_30_9, gi_30_10, gi_30_11, pi_30_1, pi_30_2, pi_30_3, pi_30_4, pi_30_5, pi_30_6, pi_30_7, pi_30_8, pi_30_9, pi_30_10, pz_30_11, ln_31, ai_31, si_31, gr_18_0, gr_18_1, gr_18_2, io_18, if_true, if_false, Option.bind_some, i1_ne, nI_1, nI_pred, up_s, up_n, zd_0, zd_1, zc_0, zc_1, b5, nI_0]; rfl
  · simp only [f_X9_holdsWhat, b_X9_holdsWhat, io_30, gr_30_0, gi_30_1, gi_30_2, gi_30_3, gi_30_4, gi_30_5, gi_30_6, gi_30_7, gi_30_8, gi_30_9, gi_30_10, gi_30_11, pi_30_1, pi_30_2, pi_30_3, pi_30_4, pi_30_5, pi_30_6, pi_30_7, pi_30_8, pi_30_9, pi_30_10, pz_30_11, ln_31, ai_31, si_31, gr_18_0, gr_18_1, gr_18_2, io_18, if_true, if_false, Option.bind_some, i1_ne, nI_1, nI_pred, up_s, up_n, zd_0, zd_1, zc_0, zc_1, b5, b6, nI_1', s8]
    rw [if_eqb (by omega) (by omega), zd_b]; rfl
  · simp only [f_X9_holdsWhat, b_X9_holdsWhat, io_30, gr_30_0, gi_30_1, gi_30_2, gi_30_3, gi_30_4, gi_30_5, gi_30_6, gi_30_7, gi_30_8, gi_30_9, gi_30_10, gi_30_11, pi_30_1, pi_30_2, pi_30_3, pi_30_4, pi_30_5, pi_30_6, pi_30_7, pi_30_8, pi_30_9, pi_30_10, pz_30_11, ln_31, ai_31, si_31, gr_18_0, gr_18_1, gr_18_2, io_18, if_true, if_false, Option.bind_some, i1_ne, nI_1, nI_pred, up_s, up_n, zd_0, zd_1, zc_0, zc_1, b5, b6, nI_2, s3, show ¬ (2 : Int32) = 0 by decide, show ¬ (2 : Int32) = 1 by decide]
    rw [if_eqb (by omega) (by omega), zd_b]; rfl
  · simp only [f_X9_holdsWhat, b_X9_holdsWhat, io_30, gr_30_0, gi_30_1, gi_30_2, gi_30_3, gi_30_4, gi_30_5, gi_30_6, gi_30_7, gi_30_8, gi_30_9, gi_30_10, gi_30_11, pi_30_1, pi_30_2, pi_30_3, pi_30_4, pi_30_5, pi_30_6, pi_30_7, pi_30_8, pi_30_9, pi_30_10, pz_30_11, ln_31, ai_31, si_31, gr_18_0, gr_18_1, gr_18_2, io_18, if_true, if_false, Option.bind_some, i1_ne, nI_1, nI_pred, up_s, up_n, zd_0, zd_1, zc_0, zc_1, b5, b6, nI_3, s9, show ¬ (3 : Int32) = 0 by decide, show ¬ (3 : Int32) = 1 by decide, show ¬ (3 : Int32) = 2 by decide]
    rw [if_ltb (by omega) (by omega), zd_b]; rfl
theorem k_act {e : EV} {h p : Nat} {l : LNV} (s : St C e h) (w : WEv e) (wl : WLn l) (hl : isLn mu T p l) : f_X9_holdsAct (hp X C M T) (some 30) (some p) = some (b01 (actB e l)) := by
  obtain ⟨b0, b1, b2, b3, b4, b5, b6, -⟩ := ln_all (X := X) (C := C) (M := M) hl
  obtain ⟨s1, s2, s3, s4, s5, s6, s7, s8, s9, s10⟩ := s
  obtain ⟨w1, w2, w3, w4, w5, w6, w7⟩ := w
  obtain ⟨v1, v2, v3, v4, v5, v6, -⟩ := wl
  unfold actB
  by_cases q : l.2.2.2.1 = 4
  · rw [q] at b4 ⊢
    simp only [f_X9_holdsAct, b_X9_holdsAct, io_30, gr_30_0, gi_30_1, gi_30_2, gi_30_3, gi_30_4, gi_30_5, gi_30_6, gi_30_7, gi_30_8, gi_30_9, gi_30_10, gi_30_11, pi_30_1, pi_30_2, pi_30_3, pi_30_4, pi_30_5, pi_30_6, pi_30_7, pi_30_8, pi_30_9, pi_30_10, pz_30_11, ln_31, ai_31, si_31, gr_18_0, gr_18_1, gr_18_2, io_18, if_true, if_false, Option.bind_some, i1_ne, nI_1, nI_pred, up_s, up_n, zd_0, zd_1, zc_0, zc_1, b4, nI_4]; rfl
  · have q' : ¬ nI l.2.2.2.1 = 4 := fun z => q ((nI_eq (by omega) (by decide)).mp (z.trans nI_4.symm))
    simp only [f_X9_holdsAct, b_X9_holdsAct, io_30, gr_30_0, gi_30_1, gi_30_2, gi_30_3, gi_30_4, gi_30_5, gi_30_6, gi_30_7, gi_30_8, gi_30_9, gi_30_10, gi_30_11, pi_30_1, pi_30_2, pi_30_3, pi_30_4, pi_30_5, pi_30_6, pi_30_7, pi_30_8, pi_30_9, pi_30_10, pz_30_11, ln_31, ai_31, si_31, gr_18_0, gr_18_1, gr_18_2, io_18, if_true, if_false, Option.bind_some, i1_ne, nI_1, nI_pred, up_s, up_n, zd_0, zd_1, zc_0, zc_1, b4, q', s2]
    rw [if_eqb (by omega) (by omega), zd_b, show (l.2.2.2.1 == 4) = false by simp [q], Bool.false_or]
theorem k_value {e : EV} {h a : Nat} (s : St C e h) (ha : a ≠ 1000) : f_X9_value (hp X C M T) (some 30) (nI a) = if a < 1005 then some (nI (vS e 0 a)) else f_X9_value (hp X C M T) (some 30) (nI a) := by
  obtain ⟨s1, s2, s3, s4, s5, s6, s7, s8, s9, s10⟩ := s
  by_cases ha5 : a < 1005
  · rw [if_pos ha5]
    have n1 : nI 1001 = 1001 := by decide
    have n2 : nI 1002 = 1002 := by decide
    have n3 : nI 1003 = 1003 := by decide
    have n4 : nI 1004 = 1004 := by decide
    unfold vS
    rw [if_neg ha]
    by_cases q1 : a = 1001
    · subst q1; simp only [f_X9_value, b_X9_value, io_30, gr_30_0, gi_30_1, gi_30_2, gi_30_3, gi_30_4, gi_30_5, gi_30_6, gi_30_7, gi_30_8, gi_30_9, gi_30_10, gi_30_11, pi_30_1, pi_30_2, pi_30_3, pi_30_4, pi_30_5, pi_30_6, pi_30_7, pi_30_8, pi_30_9, pi_30_10, pz_30_11, ln_31, ai_31, si_31, gr_18_0, gr_18_1, gr_18_2, io_18, if_true, if_false, Option.bind_some, i1_ne, nI_1, nI_pred, up_s, up_n, zd_0, zd_1, zc_0, zc_1, n1, s7]
    · have z1 : ¬ nI a = 1001 := fun z => q1 ((nI_eq (by omega) (by decide)).mp (z.trans n1.symm))
      rw [if_neg q1]
      by_cases q2 : a = 1002
      · subst q2; simp only [f_X9_value, b_X9_value, io_30, gr_30_0, gi_30_1, gi_30_2, gi_30_3, gi_30_4, gi_30_5, gi_30_6, gi_30_7, gi_30_8, gi_30_9, gi_30_10, gi_30_11, pi_30_1, pi_30_2, pi_30_3, pi_30_4, pi_30_5, pi_30_6, pi_30_7, pi_30_8, pi_30_9, pi_30_10, pz_30_11, ln_31, ai_31, si_31, gr_18_0, gr_18_1, gr_18_2, io_18, if_true, if_false, Option.bind_some, i1_ne, nI_1, nI_pred, up_s, up_n, zd_0, zd_1, zc_0, zc_1, n2, s9, show ¬ (1002 : Int32) = 1001 by decide]
      · have z2 : ¬ nI a = 1002 := fun z => q2 ((nI_eq (by omega) (by decide)).mp (z.trans n2.symm))
        rw [if_neg q2]
        by_cases q3 : a = 1003
        · subst q3; simp only [f_X9_value, b_X9_value, io_30, gr_30_0, gi_30_1, gi_30_2, gi_30_3, gi_30_4, gi_30_5, gi_30_6, gi_30_7, gi_30_8, gi_30_9, gi_30_10, gi_30_11, pi_30_1, pi_30_2, pi_30_3, pi_30_4, pi_30_5, pi_30_6, pi_30_7, pi_30_8, pi_30_9, pi_30_10, pz_30_11, ln_31, ai_31, si_31, gr_18_0, gr_18_1, gr_18_2, io_18, if_true, if_false, Option.bind_some, i1_ne, nI_1, nI_pred, up_s, up_n, zd_0, zd_1, zc_0, zc_1, n3, s8, show ¬ (1003 : Int32) = 1001 by decide, show ¬ (1003 : Int32) = 1002 by decide]
        · have z3 : ¬ nI a = 1003 := fun z => q3 ((nI_eq (by omega) (by decide)).mp (z.trans n3.symm))
          rw [if_neg q3]
          by_cases q4 : a = 1004
          · subst q4; simp only [f_X9_value, b_X9_value, io_30, gr_30_0, gi_30_1, gi_30_2, gi_30_3, gi_30_4, gi_30_5, gi_30_6, gi_30_7, gi_30_8, gi_30_9, gi_30_10, gi_30_11, pi_30_1, pi_30_2, pi_30_3, pi_30_4, pi_30_5, pi_30_6, pi_30_7, pi_30_8, pi_30_9, pi_30_10, pz_30_11, ln_31, ai_31, si_31, gr_18_0, gr_18_1, gr_18_2, io_18, if_true, if_false, Option.bind_some, i1_ne, nI_1, nI_pred, up_s, up_n, zd_0, zd_1, zc_0, zc_1, n4, s6, show ¬ (1004 : Int32) = 1001 by decide, show ¬ (1004 : Int32) = 1002 by decide, show ¬ (1004 : Int32) = 1003 by decide]
          · have z4 : ¬ nI a = 1004 := fun z => q4 ((nI_eq (by omega) (by decide)).mp (z.trans n4.symm))
            rw [if_neg q4]
            simp only [f_X9_value, b_X9_value, io_30, gr_30_0, gi_30_1, gi_30_2, gi_30_3, gi_30_4, gi_30_5, gi_30_6, gi_30_7, gi_30_8, gi_30_9, gi_30_10, gi_30_11, pi_30_1, pi_30_2, pi_30_3, pi_30_4, pi_30_5, pi_30_6, pi_30_7, pi_30_8, pi_30_9, pi_30_10, pz_30_11, ln_31, ai_31, si_31, gr_18_0, gr_18_1, gr_18_2, io_18, if_true, if_false, Option.bind_some, i1_ne, nI_1, nI_pred, up_s, up_n, zd_0, zd_1, zc_0, zc_1, z1, z2, z3, z4]
  · rw [if_neg ha5]
theorem vS_h {e : EV} {h a : Nat} (ha : a ≠ 1000) : vS e h a = vS e 0 a := by unfold vS; rw [if_neg ha, if_neg ha]
theorem vS_lt {e : EV} {h a : Nat} (w : WEv e) (hh : h < 24) (ha : a < 1005) : vS e h a < 1005 := by
  obtain ⟨w1, w2, w3, w4, w5, w6, w7⟩ := w
  have := pcN_8 _ w4
  unfold vS
  repeat' split
  all_goals omega
theorem k_below (v : Nat) (hv : v < 2 ^ 31) : ∃ w, f_X9_hoursBelow (nI v) = some w ∧ ∀ j, j < 32 → bt w j = (decide (j < 24) && decide (j < v)) := by
  by_cases q : v < 24
  · refine ⟨((1 : Int32) <<< (nI v &&& 31)) - 1, by simp only [f_X9_hoursBelow, b_X9_hoursBelow, ← nI_24, nI_lt q (by decide), if_true], fun j hj => ?_⟩
    rw [bt_bel v q j hj]
    by_cases z : j < v
    · simp [z]; omega
    · simp [z]
  · refine ⟨16777215, by simp only [f_X9_hoursBelow, b_X9_hoursBelow, ← nI_24, nI_nlt (show 24 ≤ v by omega) hv, if_false], fun j hj => ?_⟩
    rw [bt_alh j hj]
    by_cases z : j < 24
    · simp [z]; omega
    · simp [z]
end HRS
