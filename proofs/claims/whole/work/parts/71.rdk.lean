/-! the text read: the class's small steps -/
section RDK
variable {X : XS} {C : CS} {M : MS} {T : TS} {tp : List Nat} {L : List STP} {τ : TOK} {N : Nat}
theorem shl11 (a : Nat) : nI a <<< ((11 : Int32) &&& 31) = nI (a * 2048) := by
  have h : (((11 : Int32) &&& 31).toBitVec.smod 32).toNat = 11 := by decide
  apply Int32.toBitVec_inj.mp
  show BitVec.ofNat 32 a <<< (((11 : Int32) &&& 31).toBitVec.smod 32).toNat = BitVec.ofNat 32 (a * 2048)
  rw [h]
  apply BitVec.eq_of_toNat_eq
  rw [BitVec.toNat_shiftLeft, BitVec.toNat_ofNat, BitVec.toNat_ofNat, Nat.shiftLeft_eq, Nat.mod_mul_mod]
theorem orI (a b : Nat) : nI a ||| nI b = nI (a ||| b) := by
  apply Int32.toBitVec_inj.mp
  show BitVec.ofNat 32 a ||| BitVec.ofNat 32 b = BitVec.ofNat 32 (a ||| b)
  apply BitVec.eq_of_toNat_eq
  rw [BitVec.toNat_or, BitVec.toNat_ofNat, BitVec.toNat_ofNat, BitVec.toNat_ofNat, Nat.or_mod_two_pow]
theorem or11 {a b : Nat} (h : b < 2048) : a * 2048 ||| b = a * 2048 + b := by
  rw [Nat.mul_comm]
  exact (Nat.two_pow_add_eq_or_of_lt (i := 11) h a).symm
theorem k_enc {d l r : Nat} (hl : l < 2048) (hr : r < 2048) : f_X0_step (nI d) (nI l) (nI r) = some (nI (encS (d, l, r))) := by
  unfold f_X0_step b_X0_step
  rw [shl11, orI, or11 hl, shl11, orI, or11 hr]
  have e : (d * 2048 + l) * 2048 + r = encS (d, l, r) := by show _ = d * 4194304 + l * 2048 + r; omega
  rw [e]
section RDA
variable {A A1 A2 A3 A4 : LH} {q x b : Option Nat} {a v w l s p k f n c d e g : Int32}
theorem rf_d (h0 : isO A q 2 = true) (h1 : gI A q 2 5 = some f) (h2 : f = 1) (h3 : gR A q 2 0 = some x) (h4 : pF A x 7 6 (LI 2) = some A1) : f_X2_refuse A q = some A1 := by
  unfold f_X2_refuse b_X2_refuse b_X2_refuse_24
  (repeat (first | with_reducible rfl | refine (bnd_eq (by first | with_reducible assumption)).trans ?_ | refine (if_pos (by first | with_reducible assumption | with_reducible rfl | decide | (dsimp only; first | with_reducible assumption | with_reducible rfl | decide))).trans ?_ | refine (if_neg (by first | with_reducible assumption | decide | (dsimp only; first | with_reducible assumption | decide))).trans ?_))
theorem rf_l (h0 : isO A q 2 = true) (h1 : gI A q 2 5 = some f) (h2 : ¬ f = 1) (h3 : pF A q 2 5 (LI 1) = some A1) (h4 : gR A1 q 2 0 = some x) (h5 : gI A1 x 7 8 = some p) (h6 : pF A1 q 2 6 (LI p) = some A2) (h7 : gR A2 q 2 0 = some x) (h8 : pF A2 x 7 6 (LI 2) = some A3) : f_X2_refuse A q = some A3 := by
  unfold f_X2_refuse b_X2_refuse b_X2_refuse_24
  (repeat (first | with_reducible rfl | refine (bnd_eq (by first | with_reducible assumption)).trans ?_ | refine (if_pos (by first | with_reducible assumption | with_reducible rfl | decide | (dsimp only; first | with_reducible assumption | with_reducible rfl | decide))).trans ?_ | refine (if_neg (by first | with_reducible assumption | decide | (dsimp only; first | with_reducible assumption | decide))).trans ?_))
theorem ta_t (h0 : isO A q 2 = true) (h1 : gR A q 2 0 = some x) (h2 : gI A x 7 6 = some k) (h3 : k = v) (h4 : f_X7_step N A x = some A1) : f_X2_takes N A q v = some (1, A1) := by
  unfold f_X2_takes b_X2_takes
  rw [if_pos h0, bnd_eq h1, bnd_eq h2, if_pos h3, bnd_eq h1, bnd_eq h4]; rfl
theorem ta_f (h0 : isO A q 2 = true) (h1 : gR A q 2 0 = some x) (h2 : gI A x 7 6 = some k) (h3 : ¬ k = v) : f_X2_takes N A q v = some (0, A) := by
  unfold f_X2_takes b_X2_takes
  rw [if_pos h0, bnd_eq h1, bnd_eq h2, if_neg h3]; rfl
theorem chc_t (h0 : isO A q 2 = true) (h1 : gR A q 2 0 = some x) (h2 : gI A x 7 6 = some k) (h3 : ¬ k < v) (h4 : k ≤ w) (h5 : f_X7_step N A x = some A1) : f_X2_choice N A q v w = some (k - v, A1) := by
  unfold f_X2_choice b_X2_choice
  (repeat (first | with_reducible rfl | refine (bnd_eq (by first | with_reducible assumption)).trans ?_ | refine (if_pos (by first | with_reducible assumption | with_reducible rfl | decide | (dsimp only; first | with_reducible assumption | with_reducible rfl | decide))).trans ?_ | refine (if_neg (by first | with_reducible assumption | decide | (dsimp only; first | with_reducible assumption | decide))).trans ?_))
theorem chc_l (h0 : isO A q 2 = true) (h1 : gR A q 2 0 = some x) (h2 : gI A x 7 6 = some k) (h3 : k < v) (h5 : f_X2_refuse A q = some A1) : f_X2_choice N A q v w = some (0, A1) := by
  unfold f_X2_choice b_X2_choice b_X2_choice_18
  (repeat (first | with_reducible rfl | refine (bnd_eq (by first | with_reducible assumption)).trans ?_ | refine (if_pos (by first | with_reducible assumption | with_reducible rfl | decide | (dsimp only; first | with_reducible assumption | with_reducible rfl | decide))).trans ?_ | refine (if_neg (by first | with_reducible assumption | decide | (dsimp only; first | with_reducible assumption | decide))).trans ?_))
theorem chc_h (h0 : isO A q 2 = true) (h1 : gR A q 2 0 = some x) (h2 : gI A x 7 6 = some k) (h3 : ¬ k < v) (h4 : ¬ k ≤ w) (h5 : f_X2_refuse A q = some A1) : f_X2_choice N A q v w = some (0, A1) := by
  unfold f_X2_choice b_X2_choice b_X2_choice_18
  (repeat (first | with_reducible rfl | refine (bnd_eq (by first | with_reducible assumption)).trans ?_ | refine (if_pos (by first | with_reducible assumption | with_reducible rfl | decide | (dsimp only; first | with_reducible assumption | with_reducible rfl | decide))).trans ?_ | refine (if_neg (by first | with_reducible assumption | decide | (dsimp only; first | with_reducible assumption | decide))).trans ?_))
theorem ne_t (h0 : isO A q 2 = true) (h1 : gR A q 2 0 = some x) (h2 : gI A x 7 6 = some k) (h3 : k = v) (h4 : f_X7_step N A x = some A1) : f_X2_needs N A q v = some A1 := by
  unfold f_X2_needs b_X2_needs
  rw [if_pos h0, bnd_eq h1, bnd_eq h2, if_pos h3, bnd_eq h1, bnd_eq h4]
theorem ne_f (h0 : isO A q 2 = true) (h1 : gR A q 2 0 = some x) (h2 : gI A x 7 6 = some k) (h3 : ¬ k = v) (h4 : f_X2_refuse A q = some A1) : f_X2_needs N A q v = some A1 := by
  unfold f_X2_needs b_X2_needs
  rw [if_pos h0, bnd_eq h1, bnd_eq h2, if_neg h3, bnd_eq h4]
theorem rt_t (h0 : isO A q 2 = true) (h1 : f_X2_termAtHand A q = some c) (h2 : ¬ c = -1) (h3 : gR A q 2 0 = some x) (h4 : f_X7_step N A x = some A1) : f_X2_readTerm N A q = some (c, A1) := by
  unfold f_X2_readTerm b_X2_readTerm
  (repeat (first | with_reducible rfl | refine (bnd_eq (by first | with_reducible assumption)).trans ?_ | refine (if_pos (by first | with_reducible assumption | with_reducible rfl | decide | (dsimp only; first | with_reducible assumption | with_reducible rfl | decide))).trans ?_ | refine (if_neg (by first | with_reducible assumption | decide | (dsimp only; first | with_reducible assumption | decide))).trans ?_))
theorem rt_f (h0 : isO A q 2 = true) (h1 : f_X2_termAtHand A q = some c) (h2 : c = -1) (h3 : f_X2_refuse A q = some A1) : f_X2_readTerm N A q = some (0, A1) := by
  unfold f_X2_readTerm b_X2_readTerm
  (repeat (first | with_reducible rfl | refine (bnd_eq (by first | with_reducible assumption)).trans ?_ | refine (if_pos (by first | with_reducible assumption | with_reducible rfl | decide | (dsimp only; first | with_reducible assumption | with_reducible rfl | decide))).trans ?_ | refine (if_neg (by first | with_reducible assumption | decide | (dsimp only; first | with_reducible assumption | decide))).trans ?_))
theorem as_f (h0 : isO A q 2 = true) (h1 : gI A q 2 4 = some n) (h2 : gR A q 2 2 = some x) (h3 : ln6 A x = some l) (h4 : l ≤ n) : f_X2_addStep A q d e g = some A := by
  unfold f_X2_addStep b_X2_addStep
  (repeat (first | with_reducible rfl | refine (bnd_eq (by first | with_reducible assumption)).trans ?_ | refine (if_pos (by first | with_reducible assumption | with_reducible rfl | decide | (dsimp only; first | with_reducible assumption | with_reducible rfl | decide))).trans ?_ | refine (if_neg (by first | with_reducible assumption | decide | (dsimp only; first | with_reducible assumption | decide))).trans ?_))
theorem as_t (h0 : isO A q 2 = true) (h1 : gI A q 2 4 = some n) (h2 : gR A q 2 2 = some x) (h3 : ln6 A x = some l) (h4 : ¬ l ≤ n) (h5 : f_X0_step d e g = some s) (h6 : sI A x 0 n s = some A1) (h7 : gI A1 q 2 4 = some n) (h8 : pF A1 q 2 4 (LI (n + 1)) = some A2) : f_X2_addStep A q d e g = some A2 := by
  unfold f_X2_addStep b_X2_addStep
  (repeat (first | with_reducible rfl | refine (bnd_eq (by first | with_reducible assumption)).trans ?_ | refine (if_pos (by first | with_reducible assumption | with_reducible rfl | decide | (dsimp only; first | with_reducible assumption | with_reducible rfl | decide))).trans ?_ | refine (if_neg (by first | with_reducible assumption | decide | (dsimp only; first | with_reducible assumption | decide))).trans ?_))
theorem th_n (h0 : isO A q 2 = true) (h1 : gR A q 2 0 = some x) (h2 : gI A x 7 6 = some k) (h3 : k = 1) (h4 : gI A x 7 7 = some n) : f_X2_termAtHand A q = some n := by
  unfold f_X2_termAtHand b_X2_termAtHand
  (repeat (first | with_reducible rfl | refine (bnd_eq (by first | with_reducible assumption)).trans ?_ | refine (if_pos (by first | with_reducible assumption | with_reducible rfl | decide | (dsimp only; first | with_reducible assumption | with_reducible rfl | decide))).trans ?_ | refine (if_neg (by first | with_reducible assumption | decide | (dsimp only; first | with_reducible assumption | decide))).trans ?_))
theorem th_w (h0 : isO A q 2 = true) (h1 : gR A q 2 0 = some x) (h2 : gI A x 7 6 = some k) (h3 : ¬ k = 1) : f_X2_termAtHand A q = if k = 309 then some (1001 : Int32) else if k = 315 then some (1003 : Int32) else if k = 317 then some (1002 : Int32) else if k = 322 then some (1000 : Int32) else if k = 323 then some (1004 : Int32) else some (-1 : Int32) := by
  unfold f_X2_termAtHand b_X2_termAtHand
  rw [if_pos h0, bnd_eq h1, bnd_eq h2, if_neg h3]
end RDA
end RDK
