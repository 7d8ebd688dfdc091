/-! small rows that the printed walks use; links and words, by their places in the tables (written by program) -/
theorem bnd {α β : Type} {o : Option α} {f : α → Option β} {b : β} (h : o.bind f = some b) : ∃ a, o = some a ∧ f a = some b := Option.bind_eq_some_iff.mp h
theorem ifM {α : Type} {c : Prop} [Decidable c] {a : Option α} {x : α} (h : (if c then none else a) = some x) : ¬ c ∧ a = some x := by
  by_cases hc : c
  · rw [if_pos hc] at h; cases h
  · rw [if_neg hc] at h; exact ⟨hc, h⟩
def zc (o : Option (Int32 × LH)) : Option (Int32 × LH) := o.bind fun p => if p.1 = 0 ∨ p.1 = 1 then some p else none
def zd (o : Option Int32) : Option Int32 := o.bind fun p => if p = 0 ∨ p = 1 then some p else none
theorem zc_sp {o : Option (Int32 × LH)} {p : Int32 × LH} (h : zc o = some p) : o = some p ∧ (p.1 = 0 ∨ p.1 = 1) := by
  obtain ⟨q, h1, h2⟩ := bnd h
  obtain ⟨h3, h4⟩ := ifN h2
  cases h4
  exact ⟨h1, h3⟩
theorem zd_sp {o : Option Int32} {p : Int32} (h : zd o = some p) : o = some p ∧ (p = 0 ∨ p = 1) := by
  obtain ⟨q, h1, h2⟩ := bnd h
  obtain ⟨h3, h4⟩ := ifN h2
  cases h4
  exact ⟨h1, h3⟩
theorem RTz {r : Int32} (h : r = 0 ∨ r = 1) : RT (some .boolean) (some (LI r)) := by
  rcases h with rfl | rfl <;> (show narrow _ _ = _; decide)
theorem pZ_F {A B : LH} {r : Option Nat} {ci k : Nat} {x : Int32} (h : pZ A r ci k x = some B) : pF A r ci k (LI x) = some B ∧ (x = 0 ∨ x = 1) := by
  unfold pZ at h
  obtain ⟨h1, h2⟩ := ifN h
  exact ⟨h2, h1⟩
theorem pZ_n {g : GG} {x : Int32} (h : x = 0 ∨ x = 1) : narrow .boolean (cv g (LI x)) = cv g (LI x) := by
  rcases h with rfl | rfl <;> (show narrow _ (Value.int _) = Value.int _; decide)
theorem pZ_f {g : GG} {x : Int32} (h : x = 0 ∨ x = 1) : fits .boolean (cv g (LI x)) = true := by
  rcases h with rfl | rfl <;> (show fits _ (Value.int _) = _; decide)
def rfT : FieldType → Bool
  | .object _ => true
  | .array _ => true
  | _ => false
theorem nrR {g : GG} {t : FieldType} (r : Option Nat) (h : rfT t = true) : narrow t (cv g (LR r)) = cv g (LR r) := by
  cases r <;> cases t <;> first | rfl | cases h
theorem ftR {g : GG} {t : FieldType} (r : Option Nat) (h : rfT t = true) : fits t (cv g (LR r)) = true := by
  cases r <;> cases t <;> first | rfl | cases h
def ln6 (A : LH) (r : Option Nat) : Option Int32 := match r with
  | none => none
  | some q => match gc A q with
    | .inl (t, n, _) => if t < 6 then some (Int32.ofNat n) else none
    | _ => none
theorem ln6_sp {A : LH} {r : Option Nat} {v : Int32} (h : ln6 A r = some v) : ∃ q t n f, r = some q ∧ gc A q = .inl (t, n, f) ∧ v = Int32.ofNat n ∧ t < 6 := by
  unfold ln6 at h
  split at h
  · cases h
  · split at h
    · rename_i q _ t n f e
      obtain ⟨h1, h2⟩ := ifN h
      cases h2; exact ⟨q, t, n, f, rfl, e, rfl, h1⟩
    · cases h
theorem ln6_l {A : LH} {r : Option Nat} {v : Int32} (h : ln6 A r = some v) : ln A r = some v := by
  obtain ⟨q, t, n, f, rfl, h1, rfl, -⟩ := ln6_sp h
  simp [ln, h1]
theorem ln6_t {A : LH} {r : Option Nat} {v : Int32} (h : ln6 A r = some v) : ∀ q t n f, r = some q → gc A q = .inl (t, n, f) → t < 6 := by
  obtain ⟨q, t, n, f, rfl, h1, rfl, h2⟩ := ln6_sp h
  intro q' t' n' f' e1 e2
  cases e1
  rw [h1] at e2
  cases e2
  exact h2
/-- a contract: from its entry, the method answers rr and leaves A' -/
def Ct (g : GG) (y : MM) (d : Nat) (args : List LV) (A : LH) (rr : Option LV) (A' : LH) : Prop := V g y d (hn A) (hz A) rr A' A 0 (ent args) [] ∧ RT (mR y) rr
section VW
variable {g : GG} {y y2 : MM} {d d2 n0 z0 n i : Nat} {rr r2 : Option LV} {A' A A1 : LH} {pc : Nat} {ls : List (Option LV)} {st stk args : List LV}
theorem V.callVi {r : Option Nat} {ci N : Nat} {T : u_T} {x : Int32} (hc : V g y2 d2 (hn A) (hz A) (some (LI x)) A1 A 0 (ent (LR r :: args)) []) (ho : isO A r ci = true) (hm : MK y2 n) (hrt : RT (mR y2) (some (LI x))) (hci : vcl[ci]? = some ((mN y2).cls, T, N)) (hl : Cond.methodLink (mN y).cls i (mN y2) ∈ lw_tbl) (hi : Cond.instanceMethod (mN y2) ∈ lw_tbl) (hs : Cond.selects (mN y2).cls (mN y2) (mN y2) ∈ lw_tbl) (hn1 : args.length = n) (hls : lsz (LR r :: args) ≤ mL y2) (hdd : d2 + 1 ≤ d) (hst : stk = args.reverse ++ LR r :: st) (h8 : lsz st ≤ 8) (hd : decode (mC y) pc = .ok (.invokevirtual i, 3))
    (kk : V g y d n0 z0 rr A' A1 (pc + 3) ls (LI x :: st)) : V g y d n0 z0 rr A' A pc ls stk := V.callV hc ho hm hrt hci hl hi hs hn1 hls hdd hst h8 hd kk
theorem V.callVr {r : Option Nat} {ci N : Nat} {T : u_T} {x : Option Nat} (hc : V g y2 d2 (hn A) (hz A) (some (LR x)) A1 A 0 (ent (LR r :: args)) []) (ho : isO A r ci = true) (hm : MK y2 n) (hrt : RT (mR y2) (some (LR x))) (hci : vcl[ci]? = some ((mN y2).cls, T, N)) (hl : Cond.methodLink (mN y).cls i (mN y2) ∈ lw_tbl) (hi : Cond.instanceMethod (mN y2) ∈ lw_tbl) (hs : Cond.selects (mN y2).cls (mN y2) (mN y2) ∈ lw_tbl) (hn1 : args.length = n) (hls : lsz (LR r :: args) ≤ mL y2) (hdd : d2 + 1 ≤ d) (hst : stk = args.reverse ++ LR r :: st) (h8 : lsz st ≤ 8) (hd : decode (mC y) pc = .ok (.invokevirtual i, 3))
    (kk : V g y d n0 z0 rr A' A1 (pc + 3) ls (LR x :: st)) : V g y d n0 z0 rr A' A pc ls stk := V.callV hc ho hm hrt hci hl hi hs hn1 hls hdd hst h8 hd kk
theorem V.callVv {r : Option Nat} {ci N : Nat} {T : u_T} (hc : V g y2 d2 (hn A) (hz A) none A1 A 0 (ent (LR r :: args)) []) (ho : isO A r ci = true) (hm : MK y2 n) (hrt : RT (mR y2) none) (hci : vcl[ci]? = some ((mN y2).cls, T, N)) (hl : Cond.methodLink (mN y).cls i (mN y2) ∈ lw_tbl) (hi : Cond.instanceMethod (mN y2) ∈ lw_tbl) (hs : Cond.selects (mN y2).cls (mN y2) (mN y2) ∈ lw_tbl) (hn1 : args.length = n) (hls : lsz (LR r :: args) ≤ mL y2) (hdd : d2 + 1 ≤ d) (hst : stk = args.reverse ++ LR r :: st) (h8 : lsz st ≤ 8) (hd : decode (mC y) pc = .ok (.invokevirtual i, 3))
    (kk : V g y d n0 z0 rr A' A1 (pc + 3) ls st) : V g y d n0 z0 rr A' A pc ls stk := V.callV hc ho hm hrt hci hl hi hs hn1 hls hdd hst h8 hd kk
theorem V.callSi {x : Int32} (hc : V g y2 d2 (hn A) (hz A) (some (LI x)) A1 A 0 (ent args) []) (hm : MK y2 n) (hrt : RT (mR y2) (some (LI x))) (hl : Cond.methodLink (mN y).cls i (mN y2) ∈ lw_tbl) (hi : Cond.static (mN y2) ∈ lw_tbl) (hn1 : args.length = n) (hls : lsz args ≤ mL y2) (hdd : d2 + 1 ≤ d) (hst : stk = args.reverse ++ st) (h8 : lsz st ≤ 8) (hd : decode (mC y) pc = .ok (.invokestatic i, 3))
    (kk : V g y d n0 z0 rr A' A1 (pc + 3) ls (LI x :: st)) : V g y d n0 z0 rr A' A pc ls stk := V.callS hc hm hrt hl hi hn1 hls hdd hst h8 hd kk
theorem V.callSr {x : Option Nat} (hc : V g y2 d2 (hn A) (hz A) (some (LR x)) A1 A 0 (ent args) []) (hm : MK y2 n) (hrt : RT (mR y2) (some (LR x))) (hl : Cond.methodLink (mN y).cls i (mN y2) ∈ lw_tbl) (hi : Cond.static (mN y2) ∈ lw_tbl) (hn1 : args.length = n) (hls : lsz args ≤ mL y2) (hdd : d2 + 1 ≤ d) (hst : stk = args.reverse ++ st) (h8 : lsz st ≤ 8) (hd : decode (mC y) pc = .ok (.invokestatic i, 3))
    (kk : V g y d n0 z0 rr A' A1 (pc + 3) ls (LR x :: st)) : V g y d n0 z0 rr A' A pc ls stk := V.callS hc hm hrt hl hi hn1 hls hdd hst h8 hd kk
theorem V.callSv (hc : V g y2 d2 (hn A) (hz A) none A1 A 0 (ent args) []) (hm : MK y2 n) (hrt : RT (mR y2) none) (hl : Cond.methodLink (mN y).cls i (mN y2) ∈ lw_tbl) (hi : Cond.static (mN y2) ∈ lw_tbl) (hn1 : args.length = n) (hls : lsz args ≤ mL y2) (hdd : d2 + 1 ≤ d) (hst : stk = args.reverse ++ st) (h8 : lsz st ≤ 8) (hd : decode (mC y) pc = .ok (.invokestatic i, 3))
    (kk : V g y d n0 z0 rr A' A1 (pc + 3) ls st) : V g y d n0 z0 rr A' A pc ls stk := V.callS hc hm hrt hl hi hn1 hls hdd hst h8 hd kk
theorem V.callSNi {x : Int32} (hc : V g y2 d2 (hn A) (hz A) (some (LI x)) A1 A 0 (ent args) []) (hm : MK y2 n) (hrt : RT (mR y2) (some (LI x))) (hl : Cond.methodLinkNest (mN y).cls i (mN y2) "RulesTried" ∈ tables_1) (hi : Cond.static (mN y2) ∈ lw_tbl) (hn1 : args.length = n) (hls : lsz args ≤ mL y2) (hdd : d2 + 1 ≤ d) (hst : stk = args.reverse ++ st) (h8 : lsz st ≤ 8) (hd : decode (mC y) pc = .ok (.invokestatic i, 3))
    (kk : V g y d n0 z0 rr A' A1 (pc + 3) ls (LI x :: st)) : V g y d n0 z0 rr A' A pc ls stk := V.callSN hc hm hrt hl hi hn1 hls hdd hst h8 hd kk
theorem V.ldc_w {v : Int32} (hc : Cond.constant (mN y).cls i v ∈ lw_tbl) (hd : decode (mC y) pc = .ok (.ldc_w i, 3)) (k : V g y d n0 z0 rr A' A (pc + 3) ls (LI v :: st)) : V g y d n0 z0 rr A' A pc ls st :=
  k.pure fun _ _ _ _ _ _ _ _ _ _ _ _ _ _ _ X _ w => lv_ldcw X.1 X.2.1 X.2.2.2.1 (X.2.2.2.2.2.1 _ hc rfl) hd w
theorem V.ifnull_ {r : Option Nat} {off : Int} {tgt : Nat} (hd : decode (mC y) pc = .ok (.ifnull off, 3)) (ht : (pc : Int) + off = (tgt : Int)) (k1 : r = none → V g y d n0 z0 rr A' A tgt ls st) (k2 : ¬ r = none → V g y d n0 z0 rr A' A (pc + 3) ls st) : V g y d n0 z0 rr A' A pc ls (LR r :: st) := by
  cases r with
  | none => exact V.ifnull_t hd ht (k1 rfl)
  | some a => exact V.ifnull_f hd (k2 (fun h => nomatch h))
theorem V.ifnonnull_ {r : Option Nat} {off : Int} {tgt : Nat} (hd : decode (mC y) pc = .ok (.ifnonnull off, 3)) (ht : (pc : Int) + off = (tgt : Int)) (k1 : ¬ r = none → V g y d n0 z0 rr A' A tgt ls st) (k2 : r = none → V g y d n0 z0 rr A' A (pc + 3) ls st) : V g y d n0 z0 rr A' A pc ls (LR r :: st) := by
  cases r with
  | none => exact V.ifnonnull_f hd (k2 rfl)
  | some a => exact V.ifnonnull_t hd ht (k1 (fun h => nomatch h))
end VW
theorem sw_out {x : Int32} {lo hi : Int} {n : Nat} (cs : List Int32) (hcs : lo + (n : Int) = hi + 1 ∧ cs = (List.range n).map (fun j : Nat => Int32.ofInt (lo + (j : Int)))) (h : ∀ c ∈ cs, ¬ x = c) : x.toInt < lo ∨ hi < x.toInt := by
  apply Classical.byContradiction
  intro hh
  have h1 : lo ≤ x.toInt := by omega
  have h2 : x.toInt ≤ hi := by omega
  refine h (Int32.ofInt x.toInt) ?_ (Int32.ofInt_toInt x).symm
  rw [hcs.2]
  exact List.mem_map.mpr ⟨(x.toInt - lo).toNat, List.mem_range.mpr (by omega), by congr 1; omega⟩
theorem lk_off (ks : List (Int × Int)) (df : Int) (z : Int) (h : ∀ q ∈ ks, q.1 ≠ z) : Op.lookupswitch.offset ks df z = df := by
  induction ks with
  | nil => rfl
  | cons q l ih =>
    obtain ⟨a, o⟩ := q
    rw [Op.lookupswitch.offset_cons, if_neg (h (a, o) List.mem_cons_self)]
    exact ih (fun q hq => h q (List.mem_cons_of_mem _ hq))
theorem lk_out {x : Int32} {ps : List (Int × Int)} {df : Int} (cs : List Int32) (hcs : cs = ps.map (fun q => Int32.ofInt q.1)) (h : ∀ c ∈ cs, ¬ x = c) : Op.lookupswitch.offset ps df x.toInt = df := by
  refine lk_off ps df x.toInt fun q hq e => ?_
  refine h (Int32.ofInt q.1) ?_ ?_
  · rw [hcs]; exact List.mem_map.mpr ⟨q, hq, rfl⟩
  · rw [e, Int32.ofInt_toInt]
