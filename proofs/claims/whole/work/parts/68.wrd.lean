/-! words: as longs, as kinds -/
section WRD
theorem uN_sh8 (x : Int64) : uN (x <<< (((8 : Int32)).toInt64 &&& 63)) = (256 * uN x) % 18446744073709551616 := by
  have h : (((8 : Int32).toInt64 &&& 63).toBitVec.smod 64).toNat = 8 := by decide
  show (x.toBitVec <<< (((8 : Int32).toInt64 &&& 63).toBitVec.smod 64).toNat).toNat = _
  rw [h, BitVec.toNat_shiftLeft, Nat.shiftLeft_eq, Nat.mul_comm]
  rfl
theorem uN_o8 {x y : Int64} (hy : uN y < 256) : uN ((x <<< (((8 : Int32)).toInt64 &&& 63)) ||| y) = (256 * uN x) % 18446744073709551616 + uN y := by
  have h1 : uN ((x <<< (((8 : Int32)).toInt64 &&& 63)) ||| y) = uN (x <<< (((8 : Int32)).toInt64 &&& 63)) ||| uN y := UInt64.toNat_or _ _
  have h2 : (256 * uN x) % 18446744073709551616 = 2 ^ 8 * (uN x % 72057594037927936) := by omega
  rw [h1, uN_sh8, h2]
  exact (Nat.two_pow_add_eq_or_of_lt (i := 8) hy _).symm
theorem uN_b2 : ∀ a b : Fin 16, uN (nI (16 * a.val + b.val)).toInt64 = 16 * a.val + b.val := by decide
theorem uN_by (c : Fin 256) : uN (nI c.val).toInt64 = c.val := by
  have h := uN_b2 ⟨c.val / 16, by omega⟩ ⟨c.val % 16, by omega⟩
  have e : 16 * (c.val / 16) + c.val % 16 = c.val := by omega
  rw [e] at h
  exact h
def wN (a : Nat) (w : List Nat) : Nat := w.foldl (fun a c => 256 * a + c) a
theorem wJ_N : ∀ (w : List Nat) (j : Int64) (m : Nat), uN j < 256 ^ m → m + w.length ≤ 8 → (∀ c ∈ w, c < 256) → uN (w.foldl (fun (a : Int64) c => (a <<< (((8 : Int32)).toInt64 &&& 63)) ||| (nI c).toInt64) j) = wN (uN j) w := by
  intro w
  induction w with
  | nil => intro j m _ _ _; rfl
  | cons c w ih =>
    intro j m h1 h2 h3
    have hc := h3 c List.mem_cons_self
    have hb := uN_by ⟨c, hc⟩
    rw [List.length_cons] at h2
    have hm : uN j < 256 ^ 7 := Nat.lt_of_lt_of_le h1 (Nat.pow_le_pow_right (by decide) (by omega))
    have e : uN ((j <<< (((8 : Int32)).toInt64 &&& 63)) ||| (nI c).toInt64) = 256 * uN j + c := by
      rw [uN_o8 (by rw [show uN (nI c).toInt64 = c from hb]; exact hc), show uN (nI c).toInt64 = c from hb]
      omega
    have := ih ((j <<< (((8 : Int32)).toInt64 &&& 63)) ||| (nI c).toInt64) (m + 1) (by rw [e, Nat.pow_succ]; omega) (by omega) (fun x hx => h3 x (List.mem_cons_of_mem _ hx))
    rw [e] at this
    exact this
theorem wN_app (a : Nat) (w : List Nat) (c : Nat) : wN a (w ++ [c]) = 256 * wN a w + c := by unfold wN; rw [List.foldl_append]; rfl
def wR : List Nat → Nat
  | [] => 0
  | c :: l => 256 * wR l + c
theorem wN_R : ∀ (l : List Nat), wN 0 l.reverse = wR l := by
  intro l
  induction l with
  | nil => rfl
  | cons c l ih => rw [List.reverse_cons, wN_app, ih]; rfl
theorem wR_inj : ∀ (u v : List Nat), (∀ c ∈ u, lL c = true) → (∀ c ∈ v, lL c = true) → wR u = wR v → u = v := by
  intro u
  induction u with
  | nil =>
    intro v _ hv h
    cases v with
    | nil => rfl
    | cons c v =>
      have := of_decide_eq_true (show decide (97 ≤ c ∧ c ≤ 122) = true from hv c List.mem_cons_self)
      have h' : 0 = 256 * wR v + c := h
      omega
  | cons a u ih =>
    intro v hu hv h
    have ha := of_decide_eq_true (show decide (97 ≤ a ∧ a ≤ 122) = true from hu a List.mem_cons_self)
    cases v with
    | nil =>
      have h' : 256 * wR u + a = 0 := h
      omega
    | cons c v =>
      have hc := of_decide_eq_true (show decide (97 ≤ c ∧ c ≤ 122) = true from hv c List.mem_cons_self)
      have h' : 256 * wR u + a = 256 * wR v + c := h
      have e1 : a = c := by omega
      have e2 : wR u = wR v := by omega
      rw [e1, ih v (fun x hx => hu x (List.mem_cons_of_mem _ hx)) (fun x hx => hv x (List.mem_cons_of_mem _ hx)) e2]
theorem wN_inj {u v : List Nat} (hu : ∀ c ∈ u, lL c = true) (hv : ∀ c ∈ v, lL c = true) (h : wN 0 u = wN 0 v) : u = v := by
  have e1 := wN_R u.reverse
  have e2 := wN_R v.reverse
  rw [List.reverse_reverse] at e1 e2
  have := wR_inj u.reverse v.reverse (fun c hc => hu c (List.mem_reverse.mp hc)) (fun c hc => hv c (List.mem_reverse.mp hc)) (by rw [← e1, ← e2, h])
  exact List.reverse_inj.mp this
/-- the long that the reference keeps of a word -/
def wK (w : List Nat) : Int64 := if w.length ≤ 8 then wJ w else 0
theorem wJ_uN {w : List Nat} (h : w.length ≤ 8) (hw : ∀ c ∈ w, lL c = true) : uN (wJ w) = wN 0 w := by
  have := wJ_N w 0 0 (by decide) (by omega) (fun c hc => (lL_lt (hw c hc)).1)
  exact this
theorem wN_pos {w : List Nat} (hw : ∀ c ∈ w, lL c = true) (h : w ≠ []) : wN 0 w ≠ 0 := fun z => h (wN_inj (v := []) hw (fun c hc => by cases hc) z)
theorem wK_eq {w u : List Nat} (hw : ∀ c ∈ w, lL c = true) (hu : ∀ c ∈ u, lL c = true) (hl : u.length ≤ 8) (h0 : u ≠ []) : wK w = wJ u ↔ w = u := by
  refine ⟨fun h => ?_, fun h => by rw [h]; unfold wK; rw [if_pos hl]⟩
  unfold wK at h
  split at h
  · rename_i h8
    have := congrArg uN h
    rw [wJ_uN h8 hw, wJ_uN hl hu] at this
    exact wN_inj hw hu this
  · have := congrArg uN h
    rw [wJ_uN hl hu] at this
    exact absurd this.symm (wN_pos hu h0)
def WL : List (List Nat) := [[98,121],[102,105,114,115,116],[108,97,115,116],[115,116,111,112],[108,101,116],[97,108,108],[103,114,111,117,112],[111,110,101],[111,119,110,101,114],[99,108,101,97,114],[114,101,97,100],[119,114,105,116,101],[115,104,97,114,101],[100,114,111,112],[97,110,121],[107,105,110,100],[116,104,105,110,103],[108,101,118,101,108],[119,104,101,110],[111,114],[97,110,100],[110,111,116],[104,111,117,114],[103,114,111,117,112,115]]
def flt : List (List Nat) → List Nat
  | [] => []
  | u :: l => u ++ 32 :: flt l
def kl (w : List Nat) : List (List Nat) → Nat → Nat
  | [], _ => 2
  | u :: l, f => if w = u then f else kl w l (f + 1)
theorem kw_n {w t : List Nat} {c f : Nat} {r : Option (List Nat)} (hc : c ≠ 32) : kw w (c :: t) f r = kw w t f (match r with
    | some (x :: r') => if x = c then some r' else none
    | _ => none) := by
  show (if c = 32 then _ else _) = _
  rw [if_neg hc]
  cases r with
  | none => rfl
  | some l => cases l <;> rfl
theorem kw_u (w : List Nat) (t : List Nat) (f : Nat) : ∀ (u : List Nat) (r : Option (List Nat)), (∀ c ∈ u, c ≠ 32) → kw w (u ++ 32 :: t) f r = if r = some u then f else kw w t (f + 1) (some w) := by
  intro u
  induction u with
  | nil => intro r _; rfl
  | cons c u ih =>
    intro r h
    have hc := h c List.mem_cons_self
    show kw w (c :: (u ++ 32 :: t)) f r = _
    rw [kw_n hc, ih _ (fun x hx => h x (List.mem_cons_of_mem _ hx))]
    cases r with
    | none => rfl
    | some l =>
      cases l with
      | nil => rfl
      | cons x l =>
        show (if (if x = c then some l else none) = some u then f else _) = if some (x :: l) = some (c :: u) then f else _
        by_cases h1 : x = c
        · rw [if_pos h1, h1]
          by_cases h2 : l = u
          · rw [h2, if_pos rfl, if_pos rfl]
          · rw [if_neg (fun z => h2 (Option.some.inj z)), if_neg (fun z => h2 (List.cons.inj (Option.some.inj z)).2)]
        · rw [if_neg h1, if_neg (fun z => nomatch z), if_neg (fun z => h1 (List.cons.inj (Option.some.inj z)).1)]
theorem kw_l (w : List Nat) : ∀ (L : List (List Nat)) (f : Nat), (∀ u ∈ L, ∀ c ∈ u, c ≠ 32) → kw w (flt L) f (some w) = kl w L f := by
  intro L
  induction L with
  | nil => intro f _; rfl
  | cons u L ih =>
    intro f h
    show kw w (u ++ 32 :: flt L) f (some w) = if w = u then f else kl w L (f + 1)
    rw [kw_u w _ f u (some w) (h u List.mem_cons_self), ih (f + 1) (fun x hx => h x (List.mem_cons_of_mem _ hx))]
    by_cases e : w = u
    · rw [if_pos e, if_pos (by rw [e])]
    · rw [if_neg e, if_neg (fun z => e (Option.some.inj z))]
theorem kl_i (w : List Nat) : ∀ (L : List (List Nat)) (f i : Nat), 2 < f → L.Nodup → i < L.length → (kl w L f = f + i ↔ L[i]? = some w) := by
  intro L
  induction L with
  | nil => intro f i _ _ h; cases h
  | cons u L ih =>
    intro f i hf hn hi
    rw [List.nodup_cons] at hn
    unfold kl
    by_cases e : w = u
    · rw [if_pos e]
      cases i with
      | zero => rw [e]; exact ⟨fun _ => rfl, fun _ => rfl⟩
      | succ i =>
        refine ⟨fun h => by omega, fun h => ?_⟩
        rw [List.getElem?_cons_succ, e] at h
        exact absurd (List.mem_of_getElem? h) hn.1
    · rw [if_neg e]
      cases i with
      | zero =>
        refine ⟨fun h => ?_, fun h => absurd (Option.some.inj h).symm e⟩
        exfalso
        have : ∀ (L : List (List Nat)) (f : Nat), kl w L f = 2 ∨ f ≤ kl w L f := by
          intro L
          induction L with
          | nil => intro f; exact Or.inl rfl
          | cons x L ih2 =>
            intro f
            unfold kl
            split
            · exact Or.inr (Nat.le_refl _)
            · rcases ih2 (f + 1) with h | h
              · exact Or.inl h
              · exact Or.inr (by omega)
        rcases this L (f + 1) with h2 | h2 <;> omega
      | succ i =>
        rw [List.getElem?_cons_succ, ← ih (f + 1) i (by omega) hn.2 (by rw [List.length_cons] at hi; omega), show f + 1 + i = f + (i + 1) by omega]
set_option maxRecDepth 20000 in
theorem wtx_f : wTx = flt WL := rfl
theorem WL_a : WL.all (fun u => u.all lL && (decide (u.length ≤ 8) && !u.isEmpty)) = true := rfl
theorem WL_nd : WL.Nodup := by
  have h : (WL.map (wN 0)).Nodup := by decide
  exact List.Pairwise.of_map (wN 0) (fun a b h e => h (by rw [e])) h
theorem WL_ok : (∀ u ∈ WL, ∀ c ∈ u, lL c = true) ∧ WL.Nodup ∧ ∀ u ∈ WL, u.length ≤ 8 ∧ u ≠ [] := by
  refine ⟨fun u hu => ?_, WL_nd, fun u hu => ?_⟩
  all_goals
    have h := List.all_eq_true.mp WL_a u hu
    rw [Bool.and_eq_true, Bool.and_eq_true] at h
  · exact List.all_eq_true.mp h.1
  · refine ⟨of_decide_eq_true h.2.1, fun z => ?_⟩
    have := h.2.2
    rw [z] at this
    cases this
theorem kOf_i {w : List Nat} {i : Nat} (hi : i < 24) : kOf w = 300 + i ↔ WL[i]? = some w := by
  unfold kOf
  rw [wtx_f, kw_l w WL 300 (fun u hu c hc => (lL_lt (WL_ok.1 u hu c hc)).2)]
  exact kl_i w WL 300 i (by decide) WL_ok.2.1 hi
theorem kw_hi (w : List Nat) : ∀ (L : List (List Nat)) (f : Nat), kl w L f = 2 ∨ kl w L f < f + L.length := by
  intro L
  induction L with
  | nil => intro f; exact Or.inl rfl
  | cons x L ih2 =>
    intro f
    unfold kl
    split
    · exact Or.inr (by rw [List.length_cons]; omega)
    · rcases ih2 (f + 1) with h | h
      · exact Or.inl h
      · exact Or.inr (by rw [List.length_cons]; omega)
theorem kOf_hi (w : List Nat) : kOf w < 324 := by
  unfold kOf
  rw [wtx_f, kw_l w WL 300 (fun u hu c hc => (lL_lt (WL_ok.1 u hu c hc)).2)]
  rcases kw_hi w WL 300 with h | h
  · omega
  · exact h
/-- word i is at hand for the one just when it is for the other -/
theorem kOf_K {w u : List Nat} {i : Nat} (hi : i < 24) (hu : WL[i]? = some u) (hw : ∀ c ∈ w, lL c = true) : wK w = wJ u ↔ kOf w = 300 + i := by
  have hm := List.mem_of_getElem? hu
  rw [kOf_i hi, hu, wK_eq hw (WL_ok.1 u hm) (WL_ok.2.2 u hm).1 (WL_ok.2.2 u hm).2]
  exact ⟨fun h => by rw [h], fun h => (Option.some.inj h).symm⟩
end WRD
