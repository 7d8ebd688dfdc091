section HRS
variable {X : XS} {C : CS} {M : MS} {T : TS} {S : SG} {K : Nat} {mu : List Nat}
theorem hH_who (N : Nat) {A : LH} {q p : Option Nat} (h0 : isO A q 9 = true) (hp : ¬ p = none) (h1 : f_X9_holdsWho A q p = some 0) : f_X9_hoursHeld N A q p = some (0, A) := by
  simp only [f_X9_hoursHeld, b_X9_hoursHeld, h0, if_true, hp, if_false, h1, Option.bind_some]
theorem hH_act (N : Nat) {A : LH} {q p : Option Nat} (h0 : isO A q 9 = true) (hp : ¬ p = none) (h1 : f_X9_holdsWho A q p = some 1) (h2 : f_X9_holdsAct A q p = some 0) : f_X9_hoursHeld N A q p = some (0, A) := by
  simp only [f_X9_hoursHeld, b_X9_hoursHeld, h0, if_true, hp, if_false, h1, h2, i1_ne, Option.bind_some]
theorem hH_what (N : Nat) {A : LH} {q p : Option Nat} (h0 : isO A q 9 = true) (hp : ¬ p = none) (h1 : f_X9_holdsWho A q p = some 1) (h2 : f_X9_holdsAct A q p = some 1) (h3 : f_X9_holdsWhat A q p = some 0) : f_X9_hoursHeld N A q p = some (0, A) := by
  simp only [f_X9_hoursHeld, b_X9_hoursHeld, h0, if_true, hp, if_false, h1, h2, h3, i1_ne, Option.bind_some]
theorem hH_all (N : Nat) {A : LH} {q p w : Option Nat} (h0 : isO A q 9 = true) (hp : ¬ p = none) (h1 : f_X9_holdsWho A q p = some 1) (h2 : f_X9_holdsAct A q p = some 1) (h3 : f_X9_holdsWhat A q p = some 1) (h4 : gR A p 0 6 = some w) (h5 : ln6 A w = some 0) : f_X9_hoursHeld N A q p = some (16777215, A) := by
  simp only [f_X9_hoursHeld, b_X9_hoursHeld, h0, if_true, hp, if_false, h1, h2, h3, h4, h5, i1_ne, Option.bind_some]
theorem hH_of (N : Nat) {A A1 A' : LH} {q p w : Option Nat} {n v : Int32} (h0 : isO A q 9 = true) (hp : ¬ p = none) (h1 : f_X9_holdsWho A q p = some 1) (h2 : f_X9_holdsAct A q p = some 1) (h3 : f_X9_holdsWhat A q p = some 1) (h4 : gR A p 0 6 = some w) (h5 : ln6 A w = some n) (h6 : ¬ n = 0) (h7 : pF A q 9 1 (LI 0) = some A1) (h8 : l_X9_hoursOf_7 N N A1 q w 0 = some (v, A')) : f_X9_hoursHeld N A q p = some (v, A') := by
  simp only [f_X9_hoursHeld, b_X9_hoursHeld, f_X9_hoursOf, b_X9_hoursOf, h0, if_true, hp, if_false, h1, h2, h3, h4, h5, h6, h7, h8, i1_ne, Option.bind_some]
/-- the hours for which a LINE HOLDS -/
theorem k_held (N : Nat) (hN : 601 ≤ N) {e : EV} {h p : Nat} {l : LNV} (s : St C e h) (w : WEv e) (wl : WLn l) (hl : isLn mu T p l) : ∃ v f n, f_X9_hoursHeld N (hp X C M T) (some 30) (some p) = some (v, hp X (kT C f n) M T) ∧ ∀ j, j < 32 → bt v j = (decide (j < 24) && hldB e j l) := by
  have e1 := k_who (X := X) (M := M) s w wl hl
  have e2 := k_act (X := X) (M := M) s w wl hl
  have e3 := k_what (X := X) (M := M) s w wl hl
  cases q1 : whoB e l with
  | false =>
    rw [q1] at e1
    refine ⟨0, C.2.1 5, C.1 12, by rw [kT_id]; exact hH_who N io_30 (by simp) e1, fun j hj => ?_⟩
    rw [b_0]; simp [hldB, q1]
  | true =>
    rw [q1] at e1
    cases q2 : actB e l with
    | false =>
      rw [q2] at e2
      refine ⟨0, C.2.1 5, C.1 12, by rw [kT_id]; exact hH_act N io_30 (by simp) e1 e2, fun j hj => ?_⟩
      rw [b_0]; simp [hldB, q2]
    | true =>
      rw [q2] at e2
      cases q3 : whatB e l with
      | false =>
        rw [q3] at e3
        refine ⟨0, C.2.1 5, C.1 12, by rw [kT_id]; exact hH_what N io_30 (by simp) e1 e2 e3, fun j hj => ?_⟩
        rw [b_0]; simp [hldB, q3]
      | true =>
        rw [q3] at e3
        obtain ⟨b0, b1, b2, b3, b4, b5, b6, wq, b7, b8, b9⟩ := ln_all (X := X) (C := C) (M := M) hl
        obtain ⟨v1, v2, v3, v4, v5, v6, v7, v8, v9⟩ := wl
        rcases v8 with v8 | v8
        · rw [v8, List.length_nil, nI_0] at b8
          refine ⟨16777215, C.2.1 5, C.1 12, by rw [kT_id]; exact hH_all N io_30 (by simp) e1 e2 e3 b7 b8, fun j hj => ?_⟩
          rw [bt_alh j hj]; simp [hldB, q1, q2, q3, whenB, v8]
        · have hpos : 0 < l.2.2.2.2.2.2.length := by
            cases hq : l.2.2.2.2.2.2 with
            | nil => rw [hq] at v8; exact absurd v8 (by simp [stkS])
            | cons a b => simp
          have hne : ¬ nI l.2.2.2.2.2.2.length = 0 := nI_ne0 hpos (by omega)
          obtain ⟨h0, wq', fw, i1, i2, i3, i4⟩ := hl
          have hwq : wq' = wq := by
            have := gR_at (k := 6) (h0.gc (X := X) (C := C) (M := M) |>.trans i2) rfl
            rw [b7] at this
            exact (Option.some.inj (Option.some.inj this)).symm
          subst hwq
          have g1 : ∀ C : CS, ln6 (hp X C M T) (some wq') = some (nI l.2.2.2.2.2.2.length) := fun C => ln6_at (i1.gc.trans i3) (by decide)
          have g2 : ∀ (C : CS) (i : Nat) (x : Nat × Nat × Nat), l.2.2.2.2.2.2[i]? = some x → aI (hp X C M T) (some wq') 0 (nI i) = some (nI (encS x)) := fun C i x hx => by
            rw [aI_at (i1.gc.trans i3) (at_lt hx) (by omega), i4 i x hx]
          obtain ⟨v, f', n', k1, F, k2, k3⟩ := k_hoursL (X := X) (M := M) (T := T) N s w v9 v7 g1 g2 l.2.2.2.2.2.2 0 N (C.2.1 5) [] rfl (by omega) (by omega) (by simp) v8 (fun i F hF => by cases hF)
          refine ⟨v, f', n', ?_, fun j hj => ?_⟩
          · have hp0 : c0 C 12 0 = kT C (C.2.1 5) (nI 0) := by unfold kT; rw [ca_id, nI_0]
            rw [List.length_nil, ← hp0, nI_0] at k1
            exact hH_of N io_30 (by simp) e1 e2 e3 b7 b8 hne (pi_30_1 0) k1
          · rw [k3 j hj]
            have : whenB e j l.2.2.2.2.2.2 = F j := by
              unfold whenB
              rw [k2]
              cases hq : l.2.2.2.2.2.2 with
              | nil => rw [hq] at hpos; exact absurd hpos (by simp)
              | cons a b => simp
            simp [hldB, q1, q2, q3, this]
end HRS
