/-! both constructors -/
section INI
def A00 (L : Nat) (xs : Nat → Int32) : LH := ([.inl (0, L, .inl xs), .inl (0, 5, .inl a_who), .inl (0, 4, .inl a_what), .inr (100, []), .inr (100, []), .inr (100, []), .inr (100, []), .inr (100, [])] ++ List.replicate 54 ab_, 0, 0, fun _ => ab_)
def C00 : CS := (fun j => if j = 8 ∨ j = 30 then -1 else 0, fun _ _ => 0, fun k => if k = 1 then va_up (va_up (va_up (va_up (fun _ => none) 0 (some 26)) 1 (some 26)) 2 (some 26)) 3 (some 26) else fun _ => none)
def M00 : MS := (fun j => if j = 25 then -1 else 0, 0, fun _ _ => 0)
def S00 : SG := ([], ([], [], [], fun _ => (0, [])), fun _ => none, (0, -1), none)
theorem inv00 {z : Nat} : INV S00 C00 M00 (54, z, fun _ => ab_) 0 := by
  refine ⟨⟨Nat.zero_le _, fun x hx => (nomatch hx), ⟨⟨Nat.zero_le _, Nat.zero_le _, Nat.zero_le _, fun i p hp' => (nomatch hp'), fun i p hp' => (nomatch hp'), fun i p hp' => (nomatch hp')⟩, fun i hi => ⟨show 0 < 4 by decide, Nat.zero_le _, fun l hl => (nomatch hl)⟩⟩, fun k t hk ht => (nomatch ht), fun m hm => (nomatch hm)⟩, ?_, ?_⟩
  · refine ⟨⟨rfl, fun i x hx => (nomatch hx)⟩, ⟨rfl, rfl, rfl, fun i p hp' => (nomatch hp'), fun i p hp' => (nomatch hp'), fun i p hp' => (nomatch hp')⟩, rfl, Nat.le_refl _, fun q hq => rfl, [], fun i hi => ⟨26, ?_, ?_⟩, [], [], [], [], rfl, List.nodup_nil, fun q hq => (nomatch hq), fun k o ho => ?_, rfl, rfl⟩
    · rcases (show i = 0 ∨ i = 1 ∨ i = 2 ∨ i = 3 by omega) with rfl | rfl | rfl | rfl <;> rfl
    · exact ⟨⟨fun z => (nomatch z), Or.inl rfl⟩, 27, 28, fun _ => none, fun _ => 0, ⟨fun z => (nomatch z), Or.inr (Or.inl rfl)⟩, ⟨fun z => (nomatch z), Or.inr (Or.inr (Or.inl rfl))⟩, rfl, rfl, rfl, fun i l hl => (nomatch hl), fun i k hk => (nomatch hk)⟩
    · have hk3 := at_lt ho
      rcases (show k = 0 ∨ k = 1 ∨ k = 2 by simp at hk3; omega) with rfl | rfl | rfl <;> (cases ho; exact ⟨rfl, rfl⟩)
  · refine ⟨⟨rfl, fun i x hx => (nomatch hx)⟩, ⟨rfl, rfl, rfl, fun i p hp' => (nomatch hp'), fun i p hp' => (nomatch hp'), fun i p hp' => (nomatch hp')⟩, fun i hi => ⟨rfl, rfl, fun k l hl => (nomatch hl)⟩, rfl, rfl, ⟨0, Nat.le_refl _, rfl, fun i hi => ⟨0, Nat.le_refl _, rfl⟩, fun z => absurd rfl z⟩, fun k hk => rfl⟩
end INI
