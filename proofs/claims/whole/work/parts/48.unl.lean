/-! unlike -/
section UNL
variable {X : XS} {C : CS} {M : MS} {T : TS} {S : SG} {K : Nat} {mu : List Nat}
def unD (t : TLD) (r r' : RSV) (n : Nat) : Bool := letR (evC t (n / 24)) (n % 24) r ^^ letR (evC t (n / 24)) (n % 24) r'
def prt (t : TLD) (n : Nat) (w : Int32) : Int32 := if w = 0 then nI (n / 24 / (t_thg t).length / 4) else if w = 1 then nI (n / 24 / (t_thg t).length % 4) else if w = 2 then nI (n / 24 % (t_thg t).length) else if w = 3 then nI (n % 24) else -1
def unR (t : TLD) (r r' : RSV) (w : Int32) : Int32 := match (List.range (24 * csN t)).find? (unD t r r') with
  | none => -1
  | some n => prt t n w
theorem unR_none {t : TLD} {r r' : RSV} {w : Int32} (h : ∀ n, n < 24 * csN t → unD t r r' n = false) : unR t r r' w = -1 := by
  unfold unR
  rw [List.find?_eq_none.mpr fun n hn => by rw [h n (List.mem_range.mp hn)]; decide]
theorem unR_some {t : TLD} {r r' : RSV} {w : Int32} {n : Nat} (hn : n < 24 * csN t) (h : unD t r r' n = true) (h2 : ∀ j, j < n → unD t r r' j = false) : unR t r r' w = prt t n w := by
  unfold unR
  rw [List.find?_range_eq_some.mpr ⟨h, List.mem_range.mpr hn, fun j hj => by rw [h2 j hj]; rfl⟩]
theorem low_bit {P : Nat → Bool} {n : Nat} (h : ∃ j, j < n ∧ P j = true) : ∃ k, k < n ∧ P k = true ∧ ∀ j, j < k → P j = false := by
  cases hq : (List.range n).find? P with
  | none =>
    obtain ⟨j, h1, h2⟩ := h
    have := List.find?_eq_none.mp hq j (List.mem_range.mpr h1)
    exact absurd h2 this
  | some k =>
    obtain ⟨h1, h2, h3⟩ := List.find?_range_eq_some.mp hq
    exact ⟨k, List.mem_range.mp h2, h1, fun j hj => by simpa using h3 j hj⟩
theorem k_told {e : EV} {h : Nat} {t : TLD} {i k : Nat} (hk : k < 24) (he : e = evC t i) (s : St C e h) (w : Int32) : f_X9_toldAt (hp X C M T) (some 30) (nI k) w = some (prt t (24 * i + k) w) := by
  subst he
  obtain ⟨s1, s2, s3, -⟩ := s
  have e1 : (24 * i + k) / 24 = i := by omega
  have e2 : (24 * i + k) % 24 = k := by omega
  unfold prt
  rw [e1, e2]
  by_cases q0 : w = 0
  · subst q0; rw [if_pos rfl]; exact ta_0 io_30 (by rw [gi_30_2, s1]; rfl)
  · rw [if_neg q0]
    by_cases q1 : w = 1
    · subst q1; rw [if_pos rfl]; exact ta_1 io_30 (by rw [gi_30_3, s2]; rfl)
    · rw [if_neg q1]
      by_cases q2 : w = 2
      · subst q2; rw [if_pos rfl]; exact ta_2 io_30 (by rw [gi_30_4, s3]; rfl)
      · rw [if_neg q2]
        by_cases q3 : w = 3
        · subst q3; rw [if_pos rfl]; exact ta_3 io_30
        · rw [if_neg q3]; exact ta_n io_30 q0 q1 q2 q3
theorem k_unlL (N : Nat) (hN : 601 ≤ N) {t : TLD} {r r' : RSV} {q q' : Nat} (w : Int32) (hR : RTab t (C.1 9) (C.1 10) (C.1 11) (C.2.1 2) (C.2.1 3) (C.2.1 4)) (hW : WTld t) (wr : WRs r) (hr : isRl mu T q r) (wr' : WRs r') (hr' : isRl mu T q' r') : ∀ (d m i : Nat) (C' : CS), EqT C C' → csN t = i + d → d < m → (∀ n, n < 24 * i → unD t r r' n = false) → ∃ C'', l_X10_unlike_38 N m (hp X C' M T) (some 8) w (some q) (some q') (nI (csN t)) (nI i) = some (unR t r r' w, hp X C'' M T) ∧ EqT C C'' := by
  have hc := csN_le hW
  intro d
  induction d with
  | zero =>
    intro m i C' hE h1 h2 h3
    obtain ⟨m, rfl⟩ : ∃ k, m = k + 1 := ⟨m - 1, by omega⟩
    refine ⟨C', ?_, hE⟩
    rw [unR_none (fun n hn => h3 n (by omega))]
    exact un_end N m (nI_le (by omega) (by omega))
  | succ d ih =>
    intro m i C' hE h1 h2 h3
    obtain ⟨m, rfl⟩ : ∃ k, m = k + 1 := ⟨m - 1, by omega⟩
    obtain ⟨C1, c1, c2, c3, c4⟩ := k_atCase (X := X) (M := M) (T := T) (hE.tab hR) hW (show i < csN t by omega)
    obtain ⟨f, v, u, u1, u2⟩ := k_hlet (X := X) (M := M) N hN c3 c4 wr hr
    obtain ⟨f', v', u', u1', u2'⟩ := k_hlet (X := X) (M := M) (C := kT C1 f v) N hN (c3.kT (f := f) (v := v)) c4 wr' hr'
    rw [kT_kT] at u1'
    have hlt : ¬ nI (csN t) ≤ nI i := nI_ge (by omega) (by omega)
    have hbit : ∀ j, j < 32 → bt (u ^^^ u') j = (decide (j < 24) && unD t r r' (24 * i + j % 24)) := fun j hj => by
      rw [b_xor, u2 j hj, u2' j hj]
      unfold unD
      by_cases q24 : j < 24
      · rw [show (24 * i + j % 24) / 24 = i by omega, show (24 * i + j % 24) % 24 = j by omega]
        simp [q24]
      · simp [q24]
    have hbit' : ∀ j, j < 24 → bt (u ^^^ u') j = unD t r r' (24 * i + j) := fun j hj => by
      rw [hbit j (by omega), show j % 24 = j by omega]; simp [hj]
    by_cases hu : u ^^^ u' = 0
    · have h3' : ∀ n, n < 24 * (i + 1) → unD t r r' n = false := fun n hn => by
        by_cases q : n < 24 * i
        · exact h3 n q
        · have := hbit' (n - 24 * i) (by omega)
          rw [hu, b_0, show 24 * i + (n - 24 * i) = n by omega] at this
          exact this.symm
      obtain ⟨C'', g1, g2⟩ := ih m (i + 1) (kT C1 f' v') (hE.tr c2).kT (by omega) (by omega) h3'
      refine ⟨C'', ?_, g2⟩
      rw [un_go N m hlt gr_8_4 gr_8_2 c1 gr_8_4 u1 gr_8_4 u1' hu, nI_1]
      exact g1
    · have hex : ∃ j, j < 24 ∧ bt (u ^^^ u') j = true := by
        apply Classical.byContradiction
        intro hno
        refine hu (bt_z.mpr fun j hj => ?_)
        by_cases q24 : j < 24
        · cases hb : bt (u ^^^ u') j with
          | false => rfl
          | true => exact absurd ⟨j, q24, hb⟩ hno
        · rw [hbit j hj]; simp [q24]
      obtain ⟨k, k1, k2, k3⟩ := low_bit hex
      have tz := tz_24 (u ^^^ u') k1 k2 k3
      refine ⟨kT C1 f' v', ?_, (hE.tr c2).kT⟩
      rw [unR_some (n := 24 * i + k) (by omega) (by rw [← hbit' k k1]; exact k2) (fun j hj => by
        by_cases q : j < 24 * i
        · exact h3 j q
        · have := k3 (j - 24 * i) (by omega)
          rw [hbit' _ (by omega), show 24 * i + (j - 24 * i) = j by omega] at this
          exact this)]
      exact un_hit N m hlt gr_8_4 gr_8_2 c1 gr_8_4 u1 gr_8_4 u1' hu gr_8_4 tz (k_told k1 rfl (c3.kT (f := f') (v := v')) w)
theorem m_part {t : TLD} (hT : MTab t 0 M.2.2) (hW : WTld t) {n : Nat} (hn : n < 24 * csN t) {w : Nat} (hw : w < 4) : f_X11_partOf (hp X C M T) (some 35) (nI n) (nI w) = some (prt t n (nI w)) := by
  obtain ⟨p0, p1, p2, p3⟩ := m_parts (X := X) (C := C) (T := T) hT hW hn
  unfold prt
  rcases (show w = 0 ∨ w = 1 ∨ w = 2 ∨ w = 3 by omega) with rfl | rfl | rfl | rfl
  · rw [nI_0, if_pos rfl]; exact p0
  · rw [nI_1', if_neg (by decide), if_pos rfl]; exact p1
  · rw [nI_2, if_neg (by decide), if_neg (by decide), if_pos rfl]; exact p2
  · rw [nI_3, if_neg (by decide), if_neg (by decide), if_neg (by decide), if_pos rfl]; exact p3
theorem m_unlL (N : Nat) (hN : 1820 ≤ N) {t : TLD} {r r' : RSV} {s s' w : Nat} (hw : w < 4) (hs : s < 4) (hs' : s' < 4) (hT : MTab t 0 M.2.2) (hW : WTld t) (wr : WRs r) (hr : MRs M s r) (wr' : WRs r') (hr' : MRs M s' r') (h39 : M.1 39 = 0) (h40 : M.1 40 = 0) : ∀ (d m n : Nat) (f : Nat → Int32), 24 * csN t = n + d → d < m → (∀ j, j < n → unD t r r' j = false) → ∃ f', l_X11_unlike_45 N m (hp X C (mT M f) T) (some 35) (nI s) (nI s') (nI w) (nI n) = some (unR t r r' (nI w), hp X C (mT M f') T) := by
  have hc := csN_le hW
  have hT' : ∀ f, MTab t 0 (mT M f).2.2 := fun f => hT.agr hW (fun a i hi => by
    by_cases e : a = 38
    · subst e; exact absurd hi (Nat.not_lt_zero _)
    · rw [mT_n e])
  intro d
  induction d with
  | zero =>
    intro m n f h1 h2 h3
    obtain ⟨m, rfl⟩ : ∃ k, m = k + 1 := ⟨m - 1, by omega⟩
    refine ⟨f, ?_⟩
    rw [unR_none (fun n hn => h3 n (by omega))]
    exact um_end N m (m_allN (hT' f)) (nI_le (by omega) (by omega))
  | succ d ih =>
    intro m n f h1 h2 h3
    obtain ⟨m, rfl⟩ : ∃ k, m = k + 1 := ⟨m - 1, by omega⟩
    have hn : n < 24 * csN t := by omega
    obtain ⟨f1, e1⟩ := m_allLet (X := X) (C := C) (T := T) (M := mT M f) N hN hs (hT' f) hW wr hr.mT h39 h40 hn
    rw [mT_mT] at e1
    obtain ⟨f2, e2⟩ := m_allLet (X := X) (C := C) (T := T) (M := mT M f1) N hN hs' (hT' f1) hW wr' hr'.mT h39 h40 hn
    rw [mT_mT] at e2
    have hlt : ¬ nI (24 * csN t) ≤ nI n := nI_ge (by omega) (by omega)
    cases hD : unD t r r' n with
    | false =>
      have he : letR (evC t (n / 24)) (n % 24) r = letR (evC t (n / 24)) (n % 24) r' := by
        unfold unD at hD
        revert hD
        cases letR (evC t (n / 24)) (n % 24) r <;> cases letR (evC t (n / 24)) (n % 24) r' <;> simp
      obtain ⟨f', g1⟩ := ih m (n + 1) f2 (by omega) (by omega) (fun j hj => by
        by_cases q : j = n
        · subst q; exact hD
        · exact h3 j (by omega))
      refine ⟨f', ?_⟩
      rw [um_go N m (m_allN (hT' f)) hlt e1 e2 (by rw [he]), nI_1]
      exact g1
    | true =>
      have he : ¬ letR (evC t (n / 24)) (n % 24) r = letR (evC t (n / 24)) (n % 24) r' := by
        intro z
        unfold unD at hD
        rw [z, Bool.xor_self] at hD
        cases hD
      refine ⟨f2, ?_⟩
      rw [unR_some hn hD h3]
      exact um_hit N m (m_allN (hT' f)) hlt e1 e2 (fun z => he (by
        revert z
        cases letR (evC t (n / 24)) (n % 24) r <;> cases letR (evC t (n / 24)) (n % 24) r' <;> simp [b01])) (m_part (hT' f2) hW hn hw)
theorem prt_n {t : TLD} {n : Nat} {w : Int32} (h : w < 0 ∨ nI 4 ≤ w) : prt t n w = -1 := by
  have q0 := neI h (k := 0) (by decide) (by decide)
  have q1 := neI h (k := 1) (by decide) (by decide)
  have q2 := neI h (k := 2) (by decide) (by decide)
  have q3 := neI h (k := 3) (by decide) (by decide)
  rw [nI_0] at q0; rw [nI_1'] at q1; rw [nI_2] at q2; rw [nI_3] at q3
  unfold prt
  rw [if_neg q0, if_neg q1, if_neg q2, if_neg q3]
theorem op_unlike (N : Nat) (hN : 30000 ≤ N) (h : INV S C M T K) (x y w : Int32) : ∃ r C' M', f_X10_unlike N (hp X C M T) (some 8) x y w = some (r, hp X C' M T) ∧ f_X11_unlike N (hp X C' M T) (some 35) x y w = some (r, hp X C' M' T) ∧ INV S C' M' T (K + 1) := by
  have hz := h.z
  have hI := h
  obtain ⟨hW, hC, hM⟩ := h
  obtain ⟨a1, a2, a3, a4, a5, mu, a6, a7⟩ := hC
  have wt := hW.2.2.1.1
  have hc := csN_le wt
  rcases i_cases x 4 (by decide) with ⟨k, hk, rfl⟩ | hx
  · obtain ⟨q, hq, hr⟩ := k_rin (X := X) (M := M) a6 hk
    rcases i_cases y 4 (by decide) with ⟨k', hk', rfl⟩ | hy
    · obtain ⟨q', hq', hr'⟩ := k_rin (X := X) (M := M) a6 hk'
      have wr := hW.2.2.1.2 k hk
      have wr' := hW.2.2.1.2 k' hk'
      have mr : MRs (mZ M) k (t_sl (s_told S) k) := MRs.of hM.2.2.1 hk
      have mr' : MRs (mZ M) k' (t_sl (s_told S) k') := MRs.of hM.2.2.1 hk'
      have mt : MTab (s_told S) 0 (mZ M).2.2 := hM.2.1
      obtain ⟨C', c1, c2⟩ := k_unlL (X := X) (M := M) N (by omega) w a2 wt wr hr wr' hr' (csN (s_told S)) N 0 C EqT.rf (by omega) (by omega) (fun n hn => by omega)
      rw [nI_0] at c1
      rcases i_cases w 4 (by decide) with ⟨w', hw', rfl⟩ | hw
      · obtain ⟨f, m1⟩ := m_unlL (X := X) (C := C') (T := T) (M := mZ M) N (by omega) hw' hk hk' mt wt wr mr wr' mr' rfl rfl (24 * csN (s_told S)) N 0 ((mZ M).2.2 38) (by omega) (by omega) (fun n hn => by omega)
        rw [mT_id, nI_0] at m1
        have e3 := in_t (a := w') (b := 0) (c := 3) (by omega) (by omega) (by decide)
        rw [nI_0, nI_3] at e3
        exact ⟨_, C', mT (mZ M) f, uq_go io_8 hq (s_ne q) hq' (s_ne q') gr_8_2 (k_casN a2) c1, uM_go io_35 (pi_35_0 0) (slz hk) (slz hk') e3 (pi_35_39 0) (pi_35_40 0) m1, hI.eq c2 mZ_eq.mT⟩
      · have e3 : f_X11_in w 0 3 = some 0 := by rw [← nI_3]; exact in_f (lt_of_nle (n := 3) (by decide) hw)
        have hu : unR (s_told S) (t_sl (s_told S) k) (t_sl (s_told S) k') w = -1 := by
          unfold unR
          split
          · rfl
          · exact prt_n hw
        rw [hu] at c1
        exact ⟨-1, C', m0 M 0 0, uq_go io_8 hq (s_ne q) hq' (s_ne q') gr_8_2 (k_casN a2) c1, uM_no3 io_35 (pi_35_0 0) (slz hk) (slz hk') e3, hI.eq c2 eqM_z⟩
    · exact ⟨-1, C, m0 M 0 0, uq_no2 io_8 hq (s_ne q) (k_rin_f hy), uM_no2 io_35 (pi_35_0 0) (slz hk) (slf hy), hz⟩
  · obtain ⟨p', hp'⟩ := rin_ex (X := X) (M := M) a6 y
    exact ⟨-1, C, m0 M 0 0, uq_no1 io_8 (k_rin_f hx) hp', uM_no1 io_35 (pi_35_0 0) (slf hx), hz⟩
end UNL
