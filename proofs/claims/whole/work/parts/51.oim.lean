/-! image, again: the calls -/
section OIM
variable {X : XS} {C : CS} {M : MS} {T : TS} {S : SG} {K : Nat} {mu : List Nat}
theorem isTo.op {q : Nat} {t : TLD} {own : List Nat} (h : isTo mu T q t own) (h59 : ∀ p ∈ own, 62 ≤ p) : ∃ qp cp qt ct qa cb qs fp ft fa fs, own = [q, qp, cp, qt, ct, qa, cb, qs] ∧ ToC T q qp cp qt ct qa cb qs (nI (t_ppl t).length) (nI (t_thg t).length) (nI (t_bk t).length) fp ft fa fs ∧ RTab t (nI (t_ppl t).length) (nI (t_thg t).length) (nI (t_bk t).length) fp ft fa ∧ RSl mu T (t_sl t) fs := by
  obtain ⟨qp, cp, qt, ct, qa, cb, qs, np, nt, na, fp, ft, fa, fs, rfl, h1, h2, h3, h4, h5, h6, h7, h8, h9, h10⟩ := h
  have g := h59
  simp only [List.mem_cons, List.not_mem_nil, or_false, forall_eq_or_imp, forall_eq] at g
  obtain ⟨g1, g2, g3, g4, g5, g6, g7, g8⟩ := g
  rw [gD_hi g1] at h1; rw [gD_hi g2] at h2; rw [gD_hi g3] at h3; rw [gD_hi g4] at h4; rw [gD_hi g5] at h5; rw [gD_hi g6] at h6; rw [gD_hi g7] at h7; rw [gD_hi g8] at h8
  have h9' := h9
  obtain ⟨e1, e2, e3, -⟩ := h9
  rw [e1] at h2; rw [e2] at h4; rw [e3] at h6
  rw [e1, e2, e3] at h9'
  exact ⟨qp, cp, qt, ct, qa, cb, qs, fp, ft, fa, fs, rfl, ⟨h1, h2, h3, h4, h5, h6, h7, h8⟩, h9', h10⟩
theorem isTo.mk {q qp cp qt ct qa cb qs : Nat} {t : TLD} {np nt na : Int32} {fp ft fa : Nat → Int32} {fs : Nat → Option Nat} (h : ToC T q qp cp qt ct qa cb qs np nt na fp ft fa fs) (h59 : ∀ p ∈ [q, qp, cp, qt, ct, qa, cb, qs], 62 ≤ p) (hR : RTab t np nt na fp ft fa) (hs : RSl mu T (t_sl t) fs) : isTo mu T q t [q, qp, cp, qt, ct, qa, cb, qs] := by
  obtain ⟨h1, h2, h3, h4, h5, h6, h7, h8⟩ := h
  have g := h59
  simp only [List.mem_cons, List.not_mem_nil, or_false, forall_eq_or_imp, forall_eq] at g
  obtain ⟨g1, g2, g3, g4, g5, g6, g7, g8⟩ := g
  exact ⟨qp, cp, qt, ct, qa, cb, qs, np, nt, na, fp, ft, fa, fs, rfl, (gD_hi g1).trans h1, (gD_hi g2).trans h2, (gD_hi g3).trans h3, (gD_hi g4).trans h4, (gD_hi g5).trans h5, (gD_hi g6).trans h6, (gD_hi g7).trans h7, (gD_hi g8).trans h8, hR, hs⟩
theorem RSl.c3 {sl : Nat → RSV} {r : Nat → Option Nat} (h : RSl mu T sl r) {i : Nat} (hi : i < 4) : ∃ v, r i = some v ∧ 8 ≤ v ∧ ∀ (C : CS) (T' : TS), (∀ p, p ∉ mu → p < 8 + T.1 → T'.2.2 p = T.2.2 p) → ∃ fs, gc (hp X C M T') v = .inr (3, fs) := by
  obtain ⟨v, h1, h2⟩ := h i hi
  obtain ⟨h0, ql, qo, fl, fo, -, -, h3, -⟩ := h2
  have h8 := h0.ge
  refine ⟨v, h1, h8, fun C T' hT => ?_⟩
  obtain ⟨hm, hv⟩ := h0
  refine ⟨[LI (nI (sl i).1), LR (some ql), LR (some qo)], ?_⟩
  rw [gcD (by omega), ← h3]
  rcases hv with rfl | rfl | rfl | hv
  · exact gD_lo (by decide)
  · exact gD_lo (by decide)
  · exact gD_lo (by decide)
  · rw [gD_hi (by omega), gD_hi (by omega)]; exact hT v hm hv.2
theorem Wr.ex {own : List Nat} {T' : TS} (h : Wr own T T') (ho : ∀ p ∈ own, p ∈ mu) : Ex mu T mu T' := fun q hq => by
  obtain ⟨h1, h2⟩ := hq
  refine ⟨⟨h1, by rw [h.1]; exact h2⟩, ?_⟩
  by_cases q59 : q < 62
  · exact gD_lo q59
  · rw [gD_hi (by omega), gD_hi (by omega)]; exact h.2.2 q (fun z => h1 (ho q z))
theorem dj4 {o0 o1 o2 om : List Nat} (h : (o0 ++ (o1 ++ (o2 ++ om))).Nodup) : (∀ x, x ∈ o0 → x ∉ o1 ∧ x ∉ o2 ∧ x ∉ om) ∧ (∀ x, x ∈ o1 → x ∉ o0 ∧ x ∉ o2 ∧ x ∉ om) ∧ (∀ x, x ∈ o2 → x ∉ o0 ∧ x ∉ o1 ∧ x ∉ om) ∧ (∀ x, x ∈ om → x ∉ o0 ∧ x ∉ o1 ∧ x ∉ o2) := by
  rw [List.nodup_append] at h
  obtain ⟨-, h1, h2⟩ := h
  rw [List.nodup_append] at h1
  obtain ⟨-, h3, h4⟩ := h1
  rw [List.nodup_append] at h3
  obtain ⟨-, -, h5⟩ := h3
  simp only [List.mem_append] at h2 h4
  refine ⟨fun x hx => ⟨fun z => h2 x hx x (Or.inl z) rfl, fun z => h2 x hx x (Or.inr (Or.inl z)) rfl, fun z => h2 x hx x (Or.inr (Or.inr z)) rfl⟩, fun x hx => ⟨fun z => h2 x z x (Or.inl hx) rfl, fun z => h4 x hx x (Or.inl z) rfl, fun z => h4 x hx x (Or.inr z) rfl⟩, fun x hx => ⟨fun z => h2 x z x (Or.inr (Or.inl hx)) rfl, fun z => h4 x z x (Or.inl hx) rfl, fun z => h5 x hx x z rfl⟩, fun x hx => ⟨fun z => h2 x z x (Or.inr (Or.inr hx)) rfl, fun z => h4 x z x (Or.inr hx) rfl, fun z => h5 x z x hx rfl⟩⟩
/-- the image k is another -/
def n_img (S : SG) (k : Nat) (t : TLD) : SG := (s_tape S, s_told S, fun j => if j = k then some t else s_img S j, S.2.2.2)
theorem n_img_k {k : Nat} {t : TLD} : s_img (n_img S k t) k = some t := if_pos rfl
theorem n_img_n {k j : Nat} {t : TLD} (h : j ≠ k) : s_img (n_img S k t) j = s_img S j := if_neg h
/-- a place that belongs to another keeps its cell -/
theorem Wr.gd {own : List Nat} {T' : TS} (h : Wr own T T') {p : Nat} (hp : p ∉ own) : gD T' p = gD T p := by
  by_cases q59 : p < 62
  · exact gD_lo q59
  · rw [gD_hi (by omega), gD_hi (by omega)]; exact h.2.2 p hp
/-- an image that is there is written anew -/
theorem RIM.old {r : Nat → Option Nat} {md : Option Nat} (h : RIM mu T S r md) {k : Nat} (hk : k < 3) {t0 : TLD} (hi : s_img S k = some t0) : ∃ q own, r k = some q ∧ isTo mu T q t0 own ∧ own.Nodup ∧ (∀ p ∈ own, 62 ≤ p) ∧ (∀ p ∈ own, p ∈ mu) ∧ ∀ (T' : TS) (t : TLD), Wr own T T' → isTo mu T' q t own → RIM mu T' (n_img S k t) r md := by
  obtain ⟨o0, o1, o2, om, e1, e2, e3, e4, e5⟩ := h
  have hnd := e2
  rw [e1] at hnd
  obtain ⟨j0, j1, j2, jm⟩ := dj4 hnd
  have nd0 : o0.Nodup := (List.nodup_append.mp hnd).1
  have nd1 : o1.Nodup := (List.nodup_append.mp (List.nodup_append.mp hnd).2.1).1
  have nd2 : o2.Nodup := (List.nodup_append.mp (List.nodup_append.mp (List.nodup_append.mp hnd).2.1).2.1).1
  rcases (show k = 0 ∨ k = 1 ∨ k = 2 by omega) with rfl | rfl | rfl
  · have h0 := e4 0 o0 rfl
    rw [hi] at h0
    obtain ⟨q, h1, h2⟩ := h0
    refine ⟨q, o0, h1, h2, nd0, fun p hp => (e3 p (by rw [e1]; simp [hp])).1, fun p hp => by rw [e1]; simp [hp], fun T' t hw ht => ⟨o0, o1, o2, om, e1, e2, fun p hp => by rw [hw.1]; exact e3 p hp, fun j o hj => ?_, ?_⟩⟩
    · have ex : Ex mu T mu T' := hw.ex (fun p hp => by rw [e1]; simp [hp])
      by_cases hjk : j = 0
      · subst hjk
        have : o = o0 := (Option.some.inj hj).symm
        subst this
        rw [n_img_k]
        exact ⟨q, h1, ht⟩
      · rw [n_img_n hjk]
        have h3 := e4 j o hj
        have hdj : ∀ p, p ∈ o → p ∉ o0 := by
          have hj3 := at_lt hj
          rcases (show j = 1 ∨ j = 2 by simp at hj3; omega) with rfl | rfl
          · cases hj; exact fun p hp => (j1 p hp).1
          · cases hj; exact fun p hp => (j2 p hp).1
        cases hs : s_img S j with
        | none => rw [hs] at h3; exact h3
        | some t' =>
          rw [hs] at h3
          obtain ⟨q', h4, h5⟩ := h3
          exact ⟨q', h4, h5.ex ex (fun p hp => hw.gd (hdj p hp))⟩
    · show match s_mend S with
        | none => md = none ∧ om = []
        | some m => ∃ q, md = some q ∧ om = [q] ∧ isMd T' q m
      cases hm : s_mend S with
      | none => rw [hm] at e5; exact e5
      | some m =>
        rw [hm] at e5
        obtain ⟨q', h4, h5, h6⟩ := e5
        refine ⟨q', h4, h5, ?_⟩
        unfold isMd at h6 ⊢
        rw [hw.gd (jm q' (by rw [h5]; simp)).1]
        exact h6
  · have h0 := e4 1 o1 rfl
    rw [hi] at h0
    obtain ⟨q, h1, h2⟩ := h0
    refine ⟨q, o1, h1, h2, nd1, fun p hp => (e3 p (by rw [e1]; simp [hp])).1, fun p hp => by rw [e1]; simp [hp], fun T' t hw ht => ⟨o0, o1, o2, om, e1, e2, fun p hp => by rw [hw.1]; exact e3 p hp, fun j o hj => ?_, ?_⟩⟩
    · have ex : Ex mu T mu T' := hw.ex (fun p hp => by rw [e1]; simp [hp])
      by_cases hjk : j = 1
      · subst hjk
        have : o = o1 := (Option.some.inj hj).symm
        subst this
        rw [n_img_k]
        exact ⟨q, h1, ht⟩
      · rw [n_img_n hjk]
        have h3 := e4 j o hj
        have hdj : ∀ p, p ∈ o → p ∉ o1 := by
          have hj3 := at_lt hj
          rcases (show j = 0 ∨ j = 2 by simp at hj3; omega) with rfl | rfl
          · cases hj; exact fun p hp => (j0 p hp).1
          · cases hj; exact fun p hp => (j2 p hp).2.1
        cases hs : s_img S j with
        | none => rw [hs] at h3; exact h3
        | some t' =>
          rw [hs] at h3
          obtain ⟨q', h4, h5⟩ := h3
          exact ⟨q', h4, h5.ex ex (fun p hp => hw.gd (hdj p hp))⟩
    · show match s_mend S with
        | none => md = none ∧ om = []
        | some m => ∃ q, md = some q ∧ om = [q] ∧ isMd T' q m
      cases hm : s_mend S with
      | none => rw [hm] at e5; exact e5
      | some m =>
        rw [hm] at e5
        obtain ⟨q', h4, h5, h6⟩ := e5
        refine ⟨q', h4, h5, ?_⟩
        unfold isMd at h6 ⊢
        rw [hw.gd (jm q' (by rw [h5]; simp)).2.1]
        exact h6
  · have h0 := e4 2 o2 rfl
    rw [hi] at h0
    obtain ⟨q, h1, h2⟩ := h0
    refine ⟨q, o2, h1, h2, nd2, fun p hp => (e3 p (by rw [e1]; simp [hp])).1, fun p hp => by rw [e1]; simp [hp], fun T' t hw ht => ⟨o0, o1, o2, om, e1, e2, fun p hp => by rw [hw.1]; exact e3 p hp, fun j o hj => ?_, ?_⟩⟩
    · have ex : Ex mu T mu T' := hw.ex (fun p hp => by rw [e1]; simp [hp])
      by_cases hjk : j = 2
      · subst hjk
        have : o = o2 := (Option.some.inj hj).symm
        subst this
        rw [n_img_k]
        exact ⟨q, h1, ht⟩
      · rw [n_img_n hjk]
        have h3 := e4 j o hj
        have hdj : ∀ p, p ∈ o → p ∉ o2 := by
          have hj3 := at_lt hj
          rcases (show j = 0 ∨ j = 1 by simp at hj3; omega) with rfl | rfl
          · cases hj; exact fun p hp => (j0 p hp).2.1
          · cases hj; exact fun p hp => (j1 p hp).2.1
        cases hs : s_img S j with
        | none => rw [hs] at h3; exact h3
        | some t' =>
          rw [hs] at h3
          obtain ⟨q', h4, h5⟩ := h3
          exact ⟨q', h4, h5.ex ex (fun p hp => hw.gd (hdj p hp))⟩
    · show match s_mend S with
        | none => md = none ∧ om = []
        | some m => ∃ q, md = some q ∧ om = [q] ∧ isMd T' q m
      cases hm : s_mend S with
      | none => rw [hm] at e5; exact e5
      | some m =>
        rw [hm] at e5
        obtain ⟨q', h4, h5, h6⟩ := e5
        refine ⟨q', h4, h5, ?_⟩
        unfold isMd at h6 ⊢
        rw [hw.gd (jm q' (by rw [h5]; simp)).2.2]
        exact h6
theorem nd_mid {a b own : List Nat} (h : (a ++ b).Nodup) (h1 : own.Nodup) (h2 : ∀ x ∈ own, x ∉ a ++ b) : (a ++ (own ++ b)).Nodup := by
  refine (List.Perm.nodup_iff (List.perm_append_comm_assoc a own b)).mpr ?_
  rw [List.nodup_append]
  exact ⟨h1, h, fun x hx y hy hxy => h2 x hx (hxy ▸ hy)⟩
/-- an image comes that wasn't there -/
theorem RIM.new {r : Nat → Option Nat} {md : Option Nat} (h : RIM mu T S r md) (h51 : 54 ≤ T.1) {k : Nat} (hk : k < 3) (hi : s_img S k = none) {own : List Nat} {T' : TS} (hnd1 : own.Nodup) (ho : ∀ p ∈ own, 8 + T.1 ≤ p ∧ p < 8 + T'.1) (hT1 : T.1 ≤ T'.1) (hT2 : ∀ p, p < 8 + T.1 → T'.2.2 p = T.2.2 p) : r k = none ∧ ∃ mu', (∀ p ∈ own, p ∈ mu') ∧ (∀ p ∈ mu', p ∈ mu ∨ p ∈ own) ∧ Ex mu T mu' T' ∧ ∀ (T'' : TS) (q : Nat) (t : TLD), Wr own T' T'' → isTo mu' T'' q t own → RIM mu' T'' (n_img S k t) (va_up r k (some q)) md := by
  obtain ⟨o0, o1, o2, om, e1, e2, e3, e4, e5⟩ := h
  have hnd := e2
  rw [e1] at hnd
  obtain ⟨j0, j1, j2, jm⟩ := dj4 hnd
  have hgr : Gr T T' := ⟨hT1, hT2⟩
  have hlow : ∀ p, p ∈ mu → p < 8 + T.1 := fun p hp => (e3 p hp).2
  have hno : ∀ p, p ∈ mu → p ∉ own := fun p hp z => by have := hlow p hp; have := (ho p z).1; omega
  rcases (show k = 0 ∨ k = 1 ∨ k = 2 by omega) with rfl | rfl | rfl
  · have h0 := e4 0 o0 rfl
    rw [hi] at h0
    obtain ⟨h1, h2⟩ := h0
    subst h2
    have mm : ∀ p, p ∈ own ++ (o1 ++ (o2 ++ om)) → p ∈ mu ∨ p ∈ own := fun p hp => by
      rw [e1]
      simp only [List.mem_append] at hp ⊢
      simp only [List.not_mem_nil, false_or]
      rcases hp with hp | hp | hp | hp <;> simp [hp]
    have ex : Ex mu T (own ++ (o1 ++ (o2 ++ om))) T' := fun q hq => by
      obtain ⟨g1, g2⟩ := hgr.ex (mu := mu) h51 q hq
      refine ⟨⟨fun z => ?_, g1.2⟩, g2⟩
      rcases mm q z with z | z
      · exact hq.1 z
      · have := (ho q z).1
        have := hq.2
        omega
    have hnd2 : (own ++ (o1 ++ (o2 ++ om))).Nodup := nd_mid (a := []) (by simpa using hnd) hnd1 (fun x hx z => hno x (by rw [e1]; simpa using z) hx)
    refine ⟨h1, own ++ (o1 ++ (o2 ++ om)), fun p hp => by simp [hp], mm, ex, fun T'' q t hw ht => ⟨own, o1, o2, om, rfl, hnd2, fun p hp => ?_, fun j o hj => ?_, ?_⟩⟩
    · rw [hw.1]
      rcases mm p hp with z | z
      · have := e3 p z; omega
      · have := ho p z; omega
    · have ex2 : Ex (own ++ (o1 ++ (o2 ++ om))) T' (own ++ (o1 ++ (o2 ++ om))) T'' := hw.ex (fun p hp => by simp [hp])
      by_cases hjk : j = 0
      · subst hjk
        have : o = own := (Option.some.inj hj).symm
        subst this
        rw [n_img_k]
        exact ⟨q, vu_s, ht⟩
      · rw [n_img_n hjk]
        have hj' : [([] : List Nat), o1, o2][j]? = some o := by
          have hj3 := at_lt hj
          rcases (show j = 1 ∨ j = 2 by simp at hj3; omega) with rfl | rfl <;> exact hj
        have h3 := e4 j o hj'
        have hin : ∀ p, p ∈ o → p ∈ mu := by
          have hj3 := at_lt hj
          rw [e1]
          rcases (show j = 1 ∨ j = 2 by simp at hj3; omega) with rfl | rfl
          · cases hj; exact fun p hp => by simp [hp]
          · cases hj; exact fun p hp => by simp [hp]
        rw [vu_n hjk]
        cases hs : s_img S j with
        | none => rw [hs] at h3; exact h3
        | some t' =>
          rw [hs] at h3
          obtain ⟨q', h4, h5⟩ := h3
          exact ⟨q', h4, h5.ex (ex.tr ex2) (fun p hp => (hw.gd (hno p (hin p hp))).trans (hgr.gD (hlow p (hin p hp))))⟩
    · show match s_mend S with
        | none => md = none ∧ om = []
        | some m => ∃ q, md = some q ∧ om = [q] ∧ isMd T'' q m
      cases hm : s_mend S with
      | none => rw [hm] at e5; exact e5
      | some m =>
        rw [hm] at e5
        obtain ⟨q', h4, h5, h6⟩ := e5
        refine ⟨q', h4, h5, ?_⟩
        have hq : q' ∈ mu := by rw [e1, h5]; simp
        unfold isMd at h6 ⊢
        rw [(hw.gd (hno q' hq)).trans (hgr.gD (hlow q' hq))]
        exact h6
  · have h0 := e4 1 o1 rfl
    rw [hi] at h0
    obtain ⟨h1, h2⟩ := h0
    subst h2
    have mm : ∀ p, p ∈ o0 ++ (own ++ (o2 ++ om)) → p ∈ mu ∨ p ∈ own := fun p hp => by
      rw [e1]
      simp only [List.mem_append] at hp ⊢
      simp only [List.not_mem_nil, false_or]
      rcases hp with hp | hp | hp | hp <;> simp [hp]
    have ex : Ex mu T (o0 ++ (own ++ (o2 ++ om))) T' := fun q hq => by
      obtain ⟨g1, g2⟩ := hgr.ex (mu := mu) h51 q hq
      refine ⟨⟨fun z => ?_, g1.2⟩, g2⟩
      rcases mm q z with z | z
      · exact hq.1 z
      · have := (ho q z).1
        have := hq.2
        omega
    have hnd2 : (o0 ++ (own ++ (o2 ++ om))).Nodup := nd_mid (by simpa using hnd) hnd1 (fun x hx z => hno x (by rw [e1]; simpa using z) hx)
    refine ⟨h1, o0 ++ (own ++ (o2 ++ om)), fun p hp => by simp [hp], mm, ex, fun T'' q t hw ht => ⟨o0, own, o2, om, rfl, hnd2, fun p hp => ?_, fun j o hj => ?_, ?_⟩⟩
    · rw [hw.1]
      rcases mm p hp with z | z
      · have := e3 p z; omega
      · have := ho p z; omega
    · have ex2 : Ex (o0 ++ (own ++ (o2 ++ om))) T' (o0 ++ (own ++ (o2 ++ om))) T'' := hw.ex (fun p hp => by simp [hp])
      by_cases hjk : j = 1
      · subst hjk
        have : o = own := (Option.some.inj hj).symm
        subst this
        rw [n_img_k]
        exact ⟨q, vu_s, ht⟩
      · rw [n_img_n hjk]
        have hj' : [o0, ([] : List Nat), o2][j]? = some o := by
          have hj3 := at_lt hj
          rcases (show j = 0 ∨ j = 2 by simp at hj3; omega) with rfl | rfl <;> exact hj
        have h3 := e4 j o hj'
        have hin : ∀ p, p ∈ o → p ∈ mu := by
          have hj3 := at_lt hj
          rw [e1]
          rcases (show j = 0 ∨ j = 2 by simp at hj3; omega) with rfl | rfl
          · cases hj; exact fun p hp => by simp [hp]
          · cases hj; exact fun p hp => by simp [hp]
        rw [vu_n hjk]
        cases hs : s_img S j with
        | none => rw [hs] at h3; exact h3
        | some t' =>
          rw [hs] at h3
          obtain ⟨q', h4, h5⟩ := h3
          exact ⟨q', h4, h5.ex (ex.tr ex2) (fun p hp => (hw.gd (hno p (hin p hp))).trans (hgr.gD (hlow p (hin p hp))))⟩
    · show match s_mend S with
        | none => md = none ∧ om = []
        | some m => ∃ q, md = some q ∧ om = [q] ∧ isMd T'' q m
      cases hm : s_mend S with
      | none => rw [hm] at e5; exact e5
      | some m =>
        rw [hm] at e5
        obtain ⟨q', h4, h5, h6⟩ := e5
        refine ⟨q', h4, h5, ?_⟩
        have hq : q' ∈ mu := by rw [e1, h5]; simp
        unfold isMd at h6 ⊢
        rw [(hw.gd (hno q' hq)).trans (hgr.gD (hlow q' hq))]
        exact h6
  · have h0 := e4 2 o2 rfl
    rw [hi] at h0
    obtain ⟨h1, h2⟩ := h0
    subst h2
    have mm : ∀ p, p ∈ o0 ++ (o1 ++ (own ++ om)) → p ∈ mu ∨ p ∈ own := fun p hp => by
      rw [e1]
      simp only [List.mem_append] at hp ⊢
      simp only [List.not_mem_nil, false_or]
      rcases hp with hp | hp | hp | hp <;> simp [hp]
    have ex : Ex mu T (o0 ++ (o1 ++ (own ++ om))) T' := fun q hq => by
      obtain ⟨g1, g2⟩ := hgr.ex (mu := mu) h51 q hq
      refine ⟨⟨fun z => ?_, g1.2⟩, g2⟩
      rcases mm q z with z | z
      · exact hq.1 z
      · have := (ho q z).1
        have := hq.2
        omega
    have hnd2 : (o0 ++ (o1 ++ (own ++ om))).Nodup := by
      have := nd_mid (a := o0 ++ o1) (b := om) (own := own) (by simpa using hnd) hnd1 (fun x hx z => hno x (by rw [e1]; simpa using z) hx)
      simpa using this
    refine ⟨h1, o0 ++ (o1 ++ (own ++ om)), fun p hp => by simp [hp], mm, ex, fun T'' q t hw ht => ⟨o0, o1, own, om, rfl, hnd2, fun p hp => ?_, fun j o hj => ?_, ?_⟩⟩
    · rw [hw.1]
      rcases mm p hp with z | z
      · have := e3 p z; omega
      · have := ho p z; omega
    · have ex2 : Ex (o0 ++ (o1 ++ (own ++ om))) T' (o0 ++ (o1 ++ (own ++ om))) T'' := hw.ex (fun p hp => by simp [hp])
      by_cases hjk : j = 2
      · subst hjk
        have : o = own := (Option.some.inj hj).symm
        subst this
        rw [n_img_k]
        exact ⟨q, vu_s, ht⟩
      · rw [n_img_n hjk]
        have hj' : [o0, o1, ([] : List Nat)][j]? = some o := by
          have hj3 := at_lt hj
          rcases (show j = 0 ∨ j = 1 by simp at hj3; omega) with rfl | rfl <;> exact hj
        have h3 := e4 j o hj'
        have hin : ∀ p, p ∈ o → p ∈ mu := by
          have hj3 := at_lt hj
          rw [e1]
          rcases (show j = 0 ∨ j = 1 by simp at hj3; omega) with rfl | rfl
          · cases hj; exact fun p hp => by simp [hp]
          · cases hj; exact fun p hp => by simp [hp]
        rw [vu_n hjk]
        cases hs : s_img S j with
        | none => rw [hs] at h3; exact h3
        | some t' =>
          rw [hs] at h3
          obtain ⟨q', h4, h5⟩ := h3
          exact ⟨q', h4, h5.ex (ex.tr ex2) (fun p hp => (hw.gd (hno p (hin p hp))).trans (hgr.gD (hlow p (hin p hp))))⟩
    · show match s_mend S with
        | none => md = none ∧ om = []
        | some m => ∃ q, md = some q ∧ om = [q] ∧ isMd T'' q m
      cases hm : s_mend S with
      | none => rw [hm] at e5; exact e5
      | some m =>
        rw [hm] at e5
        obtain ⟨q', h4, h5, h6⟩ := e5
        refine ⟨q', h4, h5, ?_⟩
        have hq : q' ∈ mu := by rw [e1, h5]; simp
        unfold isMd at h6 ⊢
        rw [(hw.gd (hno q' hq)).trans (hgr.gD (hlow q' hq))]
        exact h6
theorem in_ns {k n : Nat} (h : k ≤ n) (hn : n < 2 ^ 31) : f_X11_in (nI k) (nI 0) (nI n) = some 1 := in_t (Nat.zero_le _) h hn
theorem MS_img {k : Nat} (hk : k < 3) (hW : WS S) (hM : RM S K M) : RM (n_img S k (s_told S)) (K + 1) (ma ((m0 M 0 0).1, (m0 M 0 0).2.1, cpB (m0 M 0 0).2.2 0 (k + 1)) 49 (upd (cpB (m0 M 0 0).2.2 0 (k + 1) 49) k 1)) := by
  obtain ⟨m1, m2, m3, m4, m5, m6, m7⟩ := hM
  obtain ⟨w1, w2, w3, w5, w6⟩ := hW
  have b : ∀ a, a ≠ 49 → (ma ((m0 M 0 0).1, (m0 M 0 0).2.1, cpB (m0 M 0 0).2.2 0 (k + 1)) 49 (upd (cpB (m0 M 0 0).2.2 0 (k + 1) 49) k 1)).2.2 a = cpB M.2.2 0 (k + 1) a := fun a ha => by rw [ma_n _ _ ha]; rfl
  have b49 : (ma ((m0 M 0 0).1, (m0 M 0 0).2.1, cpB (m0 M 0 0).2.2 0 (k + 1)) 49 (upd (cpB (m0 M 0 0).2.2 0 (k + 1) 49) k 1)).2.2 49 = upd (M.2.2 49) k 1 := by
    rw [ma_s, cpB_no (by decide)]; rfl
  have n1 : ∀ a, szA a = 0 → a ≠ 49 → (ma ((m0 M 0 0).1, (m0 M 0 0).2.1, cpB (m0 M 0 0).2.2 0 (k + 1)) 49 (upd (cpB (m0 M 0 0).2.2 0 (k + 1) 49) k 1)).2.2 a = M.2.2 a := fun a h1 h2 => by rw [b a h2, cpB_no h1]
  have ag : ∀ j, Agr j (cpB M.2.2 0 (k + 1)) (ma ((m0 M 0 0).1, (m0 M 0 0).2.1, cpB (m0 M 0 0).2.2 0 (k + 1)) 49 (upd (cpB (m0 M 0 0).2.2 0 (k + 1) 49) k 1)).2.2 := fun j a i hi => by
    by_cases e : a = 49
    · subst e; exact absurd hi (Nat.not_lt_zero _)
    · rw [b a e]
  have agr : ∀ j, j ≠ k + 1 → Agr j M.2.2 (ma ((m0 M 0 0).1, (m0 M 0 0).2.1, cpB (m0 M 0 0).2.2 0 (k + 1)) 49 (upd (cpB (m0 M 0 0).2.2 0 (k + 1) 49) k 1)).2.2 := fun j hj => (cpB_agr hj).tr (ag j)
  refine ⟨?_, m2.agr w3.1 (agr 0 (by omega)), m3.agr w3.2 (agr 0 (by omega)), m4, ?_, ?_, fun j hj => ?_⟩
  · rw [n1 1 (by decide) (by decide)]; exact m1
  · unfold MMd at m5 ⊢
    rw [n1 37 (by decide) (by decide), n1 45 (by decide) (by decide), n1 46 (by decide) (by decide)]
    exact m5
  · have := m6.up
    unfold MTe at this ⊢
    rw [n1 37 (by decide) (by decide)]
    exact this
  · rw [b49]
    by_cases e : j = k
    · subst e
      rw [n_img_k, pk_us]
      exact ⟨rfl, (m2.cp w3.1).agr w3.1 (ag _), (m3.cp w3.2).agr w3.2 (ag _)⟩
    · rw [n_img_n e, pk_un e]
      have h0 := m7 j hj
      cases hi : s_img S j with
      | none => rw [hi] at h0; exact h0
      | some t =>
        rw [hi] at h0
        have hwt := w5 j t hj hi
        exact ⟨h0.1, h0.2.1.agr hwt.1 (agr _ (by omega)), h0.2.2.agr hwt.2 (agr _ (by omega))⟩
theorem WS_img {k : Nat} (hW : WS S) : WS (n_img S k (s_told S)) := by
  obtain ⟨w1, w2, w3, w5, w6⟩ := hW
  refine ⟨w1, w2, w3, fun j t hj hi => ?_, w6⟩
  by_cases e : j = k
  · subst e; rw [n_img_k] at hi; cases hi; exact w3
  · rw [n_img_n e] at hi; exact w5 j t hj hi
theorem m_image (N : Nat) (hN : 4000 ≤ N) {k : Nat} (hk : k < 3) : f_X11_image N (hp X C M T) (some 35) (nI k) = some (1, hp X C (ma ((m0 M 0 0).1, (m0 M 0 0).2.1, cpB (m0 M 0 0).2.2 0 (k + 1)) 49 (upd (cpB (m0 M 0 0).2.2 0 (k + 1) 49) k 1)) T) := by
  have e2 := in_ns (k := k) (n := 2) (by omega) (by decide)
  rw [nI_0, nI_2] at e2
  have e3 := m_copy (X := X) (C := C) (T := T) (M := m0 M 0 0) N hN (fr := 0) (to := k + 1) (by omega) (by omega) (by omega)
  rw [nI_0, ← nI_1] at e3
  have e4 : vp_nar .boolean 1 = 1 := by decide
  refine mi_t N io_35 (pi_35_0 0) e2 e3 gr_35_49 ?_
  rw [e4, si_61 hk]
theorem op_image (N : Nat) (hN : 4000 ≤ N) (h : INV S C M T K) (x : Int32) : ∃ r S' C' M' T', f_X10_image N (hp X C M T) (some 8) x = some (r, hp X C' M T') ∧ f_X11_image N (hp X C' M T') (some 35) x = some (r, hp X C' M' T') ∧ INV S' C' M' T' (K + 1) ∧ Bd T T' := by
  have hz := h.z
  obtain ⟨hW, hC, hM⟩ := h
  obtain ⟨a1, a2, a3, a4, a5, mu, a6, a7⟩ := hC
  have wt := hW.2.2.1.1
  rcases i_cases x 3 (by decide) with ⟨k, hk, rfl⟩ | hx
  · have e1 := isIn_n hk (show 3 < 2 ^ 31 by decide)
    rw [nI_3] at e1
    have hws := WS_img (k := k) hW
    have hms := MS_img hk hW hM
    cases hi : s_img S k with
    | some t0 =>
      obtain ⟨q, own, b1, b2, b3, b4, b5, b6⟩ := a7.old hk hi
      obtain ⟨qp, cp, qt, ct, qa, cb, qs, fp, ft, fa, fs, rfl, d1, d2, d3⟩ := b2.op b4
      obtain ⟨T', fp', ft', fa', fs', g1, g2, g3, g4, g5⟩ := k_toImg (X := X) (M := M) N (by omega) d1 b3 b4 a2 wt (fun i hi => by
        obtain ⟨v, v1, v2, v3⟩ := a6.c3 (X := X) (M := M) hi
        exact ⟨v, v1, v2, fun T' hT' => v3 C T' (fun p hp _ => hT'.2.2 p (fun z => hp (b5 p z)))⟩)
      have ex : Ex mu T mu T' := g2.ex b5
      have hsl : RSl mu T' (t_sl (s_told S)) (C.2.2 1) := a6.ex ex
      have hto : isTo mu T' q (s_told S) [q, qp, cp, qt, ct, qa, cb, qs] := isTo.mk g3 b4 g4 (fun i hi => by rw [g5 i hi]; exact hsl i hi)
      refine ⟨1, n_img S k (s_told S), C, _, T', im_old N io_8 e1 gr_8_3 ((ar_29 hk).trans (congrArg some b1)) gr_8_2 g1, m_image N hN hk, ⟨hws, ⟨a1, a2, a3, by rw [g2.1]; exact a4, fun p hp => ?_, mu, hsl, b6 T' _ g2 hto⟩, hms⟩, ?_⟩
      · rw [g2.1] at hp
        rw [g2.2.2 p (fun z => by have := (b4 p z); obtain ⟨o0, o1, o2, om, e1, e2, e3, -⟩ := a7; have := (e3 p (b5 p z)).2; omega)]
        exact a5 p hp
      · exact ⟨by rw [g2.1]; exact Nat.le_refl _, by rw [g2.1]; omega, by rw [g2.2.1]; omega⟩
    | none =>
      obtain ⟨T1, fs0, c1, c2, c3, c4, c5⟩ := k_tldNew (X := X) (C := C) (M := M) N (by omega) a4
      have hnd1 : [8 + T.1, 8 + T.1 + 1, 8 + T.1 + 2, 8 + T.1 + 3, 8 + T.1 + 4, 8 + T.1 + 5, 8 + T.1 + 6, 8 + T.1 + 7].Nodup := by simp
      have h59 : ∀ p ∈ [8 + T.1, 8 + T.1 + 1, 8 + T.1 + 2, 8 + T.1 + 3, 8 + T.1 + 4, 8 + T.1 + 5, 8 + T.1 + 6, 8 + T.1 + 7], 62 ≤ p := by
        intro p hp
        simp only [List.mem_cons, List.not_mem_nil, or_false] at hp
        omega
      obtain ⟨b1, mu', b2, b3, b4, b5⟩ := a7.new a4 hk hi (T' := T1) hnd1 (fun p hp => by simp only [List.mem_cons, List.not_mem_nil, or_false] at hp; omega) (by omega) (fun p hp => c5 p (Or.inl hp))
      have hsl1 : RSl mu' T1 (t_sl (s_told S)) (C.2.2 1) := a6.ex b4
      have hC2 : (cr C 2 (va_up (C.2.2 2) k (some (8 + T.1)))).2.2 1 = C.2.2 1 := by rw [cr_22, up_n _ _ (by decide)]
      obtain ⟨T', fp', ft', fa', fs', g1, g2, g3, g4, g5⟩ := k_toImg (X := X) (M := M) (C := cr C 2 (va_up (C.2.2 2) k (some (8 + T.1)))) (t := s_told S) N (by omega) c4 hnd1 h59 a2 wt (fun i hi => by
        obtain ⟨v, v1, v2, v3⟩ := hsl1.c3 (X := X) (M := M) hi
        exact ⟨v, v1, v2, fun T' hT' => v3 _ T' (fun p hp _ => hT'.2.2 p (fun z => hp (b2 p z)))⟩)
      have ex : Ex mu' T1 mu' T' := g2.ex b2
      have hsl : RSl mu' T' (t_sl (s_told S)) (C.2.2 1) := hsl1.ex ex
      have hto : isTo mu' T' (8 + T.1) (s_told S) [8 + T.1, 8 + T.1 + 1, 8 + T.1 + 2, 8 + T.1 + 3, 8 + T.1 + 4, 8 + T.1 + 5, 8 + T.1 + 6, 8 + T.1 + 7] := isTo.mk g3 h59 g4 (fun i hi => by rw [g5 i hi]; exact hsl i hi)
      have hgb : gc (hp X C M T1) (8 + T.1) = .inr (8, [LR (some (8 + T.1 + 1)), LR (some (8 + T.1 + 3)), LR (some (8 + T.1 + 5)), LR (some (8 + T.1 + 7))]) := (gc_hp (by omega)).trans c4.1
      have s1 : sR (hp X C M T1) (some 29) 5 8 (nI k) (some (8 + T.1)) = some (hp X (cr C 2 (va_up (C.2.2 2) k (some (8 + T.1)))) M T1) := by
        rw [sR_at gc_29 hk (by decide) (by decide) hgb (by omega), sc_29]
      have h7 : aR (hp X (cr C 2 (va_up (C.2.2 2) k (some (8 + T.1)))) M T1) (some 29) 5 (nI k) = some (some (8 + T.1)) := by
        rw [ar_29 hk, cr_22, up_s, vu_s]
      refine ⟨1, n_img S k (s_told S), cr C 2 (va_up (C.2.2 2) k (some (8 + T.1))), _, T', im_new N io_8 e1 gr_8_3 ((ar_29 hk).trans (congrArg some b1)) c1 s1 gr_8_3 h7 gr_8_2 g1, m_image N hN hk, ⟨hws, ⟨a1, a2, a3, by rw [g2.1]; omega, fun p hp => ?_, mu', hsl, ?_⟩, hms⟩, ?_⟩
      · rw [g2.1] at hp
        rw [g2.2.2 p (fun z => by simp only [List.mem_cons, List.not_mem_nil, or_false] at z; omega), c5 p (Or.inr (by omega))]
        exact a5 p (by omega)
      · have := b5 T' (8 + T.1) (s_told S) g2 hto
        rw [cr_22, up_s, up_n _ _ (by decide)]
        exact this
      · exact ⟨by rw [g2.1]; omega, by rw [g2.1]; omega, by rw [g2.2.1]; omega⟩
  · have e1 := isIn_f hx
    rw [nI_3] at e1
    have e2 := in_f (lt_of_nle (n := 2) (by decide) hx)
    rw [nI_2] at e2
    exact ⟨0, S, C, _, T, im_f N io_8 e1, mi_f N io_35 (pi_35_0 0) e2, hz, Bd.rf T⟩
end OIM
