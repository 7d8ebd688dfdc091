theorem gc_0 {X : XS} {C : CS} {M : MS} {T : TS} : gc (hp X C M T) 0 = .inl (0, X.1, .inl X.2) := rfl
theorem ln_0 {X : XS} {C : CS} {M : MS} {T : TS} : ln6 (hp X C M T) (some 0) = some (nI X.1) := rfl
theorem gc_1 {X : XS} {C : CS} {M : MS} {T : TS} : gc (hp X C M T) 1 = .inl (0, 5, .inl a_who) := rfl
theorem ln_1 {X : XS} {C : CS} {M : MS} {T : TS} : ln6 (hp X C M T) (some 1) = some (nI 5) := rfl
theorem gc_2 {X : XS} {C : CS} {M : MS} {T : TS} : gc (hp X C M T) 2 = .inl (0, 4, .inl a_what) := rfl
theorem ln_2 {X : XS} {C : CS} {M : MS} {T : TS} : ln6 (hp X C M T) (some 2) = some (nI 4) := rfl
theorem io_8 {X : XS} {C : CS} {M : MS} {T : TS} : isO (hp X C M T) (some 8) 10 = true := rfl
theorem gr_8_0 {X : XS} {C : CS} {M : MS} {T : TS} : gR (hp X C M T) (some 8) 10 0 = some (some 9) := rfl
theorem gr_8_1 {X : XS} {C : CS} {M : MS} {T : TS} : gR (hp X C M T) (some 8) 10 1 = some (some 11) := rfl
theorem gr_8_2 {X : XS} {C : CS} {M : MS} {T : TS} : gR (hp X C M T) (some 8) 10 2 = some (some 18) := rfl
theorem gr_8_3 {X : XS} {C : CS} {M : MS} {T : TS} : gR (hp X C M T) (some 8) 10 3 = some (some 29) := rfl
theorem gr_8_4 {X : XS} {C : CS} {M : MS} {T : TS} : gR (hp X C M T) (some 8) 10 4 = some (some 30) := rfl
theorem gr_8_5 {X : XS} {C : CS} {M : MS} {T : TS} : gR (hp X C M T) (some 8) 10 5 = some (some 32) := rfl
theorem gr_8_6 {X : XS} {C : CS} {M : MS} {T : TS} : gR (hp X C M T) (some 8) 10 6 = some (C.2.2 3 0) := rfl
theorem pr_8_6 {X : XS} {C : CS} {M : MS} {T : TS} (v : Option Nat) : pF (hp X C M T) (some 8) 10 6 (LR v) = some (hp X (cr C 3 (up (C.2.2 3) 0 v)) M T) := rfl
theorem gi_8_7 {X : XS} {C : CS} {M : MS} {T : TS} : gI (hp X C M T) (some 8) 10 7 = some (C.1 29) := rfl
theorem pi_8_7 {X : XS} {C : CS} {M : MS} {T : TS} (v : Int32) : pF (hp X C M T) (some 8) 10 7 (LI v) = some (hp X (c0 C 29 v) M T) := rfl
theorem gi_8_8 {X : XS} {C : CS} {M : MS} {T : TS} : gI (hp X C M T) (some 8) 10 8 = some (C.1 30) := rfl
theorem pi_8_8 {X : XS} {C : CS} {M : MS} {T : TS} (v : Int32) : pF (hp X C M T) (some 8) 10 8 (LI v) = some (hp X (c0 C 30 v) M T) := rfl
theorem io_9 {X : XS} {C : CS} {M : MS} {T : TS} : isO (hp X C M T) (some 9) 6 = true := rfl
theorem gr_9_0 {X : XS} {C : CS} {M : MS} {T : TS} : gR (hp X C M T) (some 9) 6 0 = some (some 10) := rfl
theorem gi_9_1 {X : XS} {C : CS} {M : MS} {T : TS} : gI (hp X C M T) (some 9) 6 1 = some (C.1 0) := rfl
theorem pi_9_1 {X : XS} {C : CS} {M : MS} {T : TS} (v : Int32) : pF (hp X C M T) (some 9) 6 1 (LI v) = some (hp X (c0 C 0 v) M T) := rfl
theorem gc_10 {X : XS} {C : CS} {M : MS} {T : TS} : gc (hp X C M T) 10 = .inl (0, 600, .inl (C.2.1 0)) := rfl
theorem sc_10 {X : XS} {C : CS} {M : MS} {T : TS} (f : Nat → Int32) : sc (hp X C M T) 10 (.inl (0, 600, .inl f)) = hp X (ca C 0 f) M T := rfl
theorem ln_10 {X : XS} {C : CS} {M : MS} {T : TS} : ln6 (hp X C M T) (some 10) = some (nI 600) := rfl
theorem io_11 {X : XS} {C : CS} {M : MS} {T : TS} : isO (hp X C M T) (some 11) 2 = true := rfl
theorem gr_11_0 {X : XS} {C : CS} {M : MS} {T : TS} : gR (hp X C M T) (some 11) 2 0 = some (some 12) := rfl
theorem gr_11_1 {X : XS} {C : CS} {M : MS} {T : TS} : gR (hp X C M T) (some 11) 2 1 = some (some 16) := rfl
theorem gr_11_2 {X : XS} {C : CS} {M : MS} {T : TS} : gR (hp X C M T) (some 11) 2 2 = some (some 17) := rfl
theorem gi_11_3 {X : XS} {C : CS} {M : MS} {T : TS} : gI (hp X C M T) (some 11) 2 3 = some (C.1 5) := rfl
theorem pi_11_3 {X : XS} {C : CS} {M : MS} {T : TS} (v : Int32) : pF (hp X C M T) (some 11) 2 3 (LI v) = some (hp X (c0 C 5 v) M T) := rfl
theorem gi_11_4 {X : XS} {C : CS} {M : MS} {T : TS} : gI (hp X C M T) (some 11) 2 4 = some (C.1 6) := rfl
theorem pi_11_4 {X : XS} {C : CS} {M : MS} {T : TS} (v : Int32) : pF (hp X C M T) (some 11) 2 4 (LI v) = some (hp X (c0 C 6 v) M T) := rfl
theorem gi_11_5 {X : XS} {C : CS} {M : MS} {T : TS} : gI (hp X C M T) (some 11) 2 5 = some (C.1 7) := rfl
theorem pi_11_5 {X : XS} {C : CS} {M : MS} {T : TS} (v : Int32) : pF (hp X C M T) (some 11) 2 5 (LI v) = some (hp X (c0 C 7 v) M T) := rfl
theorem gi_11_6 {X : XS} {C : CS} {M : MS} {T : TS} : gI (hp X C M T) (some 11) 2 6 = some (C.1 8) := rfl
theorem pi_11_6 {X : XS} {C : CS} {M : MS} {T : TS} (v : Int32) : pF (hp X C M T) (some 11) 2 6 (LI v) = some (hp X (c0 C 8 v) M T) := rfl
theorem io_12 {X : XS} {C : CS} {M : MS} {T : TS} : isO (hp X C M T) (some 12) 7 = true := rfl
theorem gr_12_0 {X : XS} {C : CS} {M : MS} {T : TS} : gR (hp X C M T) (some 12) 7 0 = some (some 9) := rfl
theorem gr_12_1 {X : XS} {C : CS} {M : MS} {T : TS} : gR (hp X C M T) (some 12) 7 1 = some (some 13) := rfl
theorem gr_12_2 {X : XS} {C : CS} {M : MS} {T : TS} : gR (hp X C M T) (some 12) 7 2 = some (some 14) := rfl
theorem gr_12_3 {X : XS} {C : CS} {M : MS} {T : TS} : gR (hp X C M T) (some 12) 7 3 = some (some 15) := rfl
theorem gi_12_4 {X : XS} {C : CS} {M : MS} {T : TS} : gI (hp X C M T) (some 12) 7 4 = some (C.1 31) := rfl
theorem pi_12_4 {X : XS} {C : CS} {M : MS} {T : TS} (v : Int32) : pF (hp X C M T) (some 12) 7 4 (LI v) = some (hp X (c0 C 31 v) M T) := rfl
theorem gi_12_5 {X : XS} {C : CS} {M : MS} {T : TS} : gI (hp X C M T) (some 12) 7 5 = some (C.1 4) := rfl
theorem pi_12_5 {X : XS} {C : CS} {M : MS} {T : TS} (v : Int32) : pF (hp X C M T) (some 12) 7 5 (LI v) = some (hp X (c0 C 4 v) M T) := rfl
theorem gi_12_6 {X : XS} {C : CS} {M : MS} {T : TS} : gI (hp X C M T) (some 12) 7 6 = some (C.1 1) := rfl
theorem pi_12_6 {X : XS} {C : CS} {M : MS} {T : TS} (v : Int32) : pF (hp X C M T) (some 12) 7 6 (LI v) = some (hp X (c0 C 1 v) M T) := rfl
theorem gi_12_7 {X : XS} {C : CS} {M : MS} {T : TS} : gI (hp X C M T) (some 12) 7 7 = some (C.1 2) := rfl
theorem pi_12_7 {X : XS} {C : CS} {M : MS} {T : TS} (v : Int32) : pF (hp X C M T) (some 12) 7 7 (LI v) = some (hp X (c0 C 2 v) M T) := rfl
theorem gi_12_8 {X : XS} {C : CS} {M : MS} {T : TS} : gI (hp X C M T) (some 12) 7 8 = some (C.1 3) := rfl
theorem pi_12_8 {X : XS} {C : CS} {M : MS} {T : TS} (v : Int32) : pF (hp X C M T) (some 12) 7 8 (LI v) = some (hp X (c0 C 3 v) M T) := rfl
theorem gc_13 {X : XS} {C : CS} {M : MS} {T : TS} : gc (hp X C M T) 13 = .inl (0, 601, .inl (C.2.1 8)) := rfl
theorem sc_13 {X : XS} {C : CS} {M : MS} {T : TS} (f : Nat → Int32) : sc (hp X C M T) 13 (.inl (0, 601, .inl f)) = hp X (ca C 8 f) M T := rfl
theorem ln_13 {X : XS} {C : CS} {M : MS} {T : TS} : ln6 (hp X C M T) (some 13) = some (nI 601) := rfl
theorem gc_14 {X : XS} {C : CS} {M : MS} {T : TS} : gc (hp X C M T) 14 = .inl (0, 601, .inl (C.2.1 9)) := rfl
theorem sc_14 {X : XS} {C : CS} {M : MS} {T : TS} (f : Nat → Int32) : sc (hp X C M T) 14 (.inl (0, 601, .inl f)) = hp X (ca C 9 f) M T := rfl
theorem ln_14 {X : XS} {C : CS} {M : MS} {T : TS} : ln6 (hp X C M T) (some 14) = some (nI 601) := rfl
theorem gc_15 {X : XS} {C : CS} {M : MS} {T : TS} : gc (hp X C M T) 15 = .inl (0, 601, .inl (C.2.1 10)) := rfl
theorem sc_15 {X : XS} {C : CS} {M : MS} {T : TS} (f : Nat → Int32) : sc (hp X C M T) 15 (.inl (0, 601, .inl f)) = hp X (ca C 10 f) M T := rfl
theorem ln_15 {X : XS} {C : CS} {M : MS} {T : TS} : ln6 (hp X C M T) (some 15) = some (nI 601) := rfl
theorem gc_16 {X : XS} {C : CS} {M : MS} {T : TS} : gc (hp X C M T) 16 = .inl (3, 12, .inr (C.2.2 0)) := rfl
theorem sc_16 {X : XS} {C : CS} {M : MS} {T : TS} (f : Nat → Option Nat) : sc (hp X C M T) 16 (.inl (3, 12, .inr f)) = hp X (cr C 0 f) M T := rfl
theorem ln_16 {X : XS} {C : CS} {M : MS} {T : TS} : ln6 (hp X C M T) (some 16) = some (nI 12) := rfl
theorem gc_17 {X : XS} {C : CS} {M : MS} {T : TS} : gc (hp X C M T) 17 = .inl (0, 600, .inl (C.2.1 1)) := rfl
theorem sc_17 {X : XS} {C : CS} {M : MS} {T : TS} (f : Nat → Int32) : sc (hp X C M T) 17 (.inl (0, 600, .inl f)) = hp X (ca C 1 f) M T := rfl
theorem ln_17 {X : XS} {C : CS} {M : MS} {T : TS} : ln6 (hp X C M T) (some 17) = some (nI 600) := rfl
theorem io_18 {X : XS} {C : CS} {M : MS} {T : TS} : isO (hp X C M T) (some 18) 8 = true := rfl
theorem gr_18_0 {X : XS} {C : CS} {M : MS} {T : TS} : gR (hp X C M T) (some 18) 8 0 = some (some 19) := rfl
theorem gr_18_1 {X : XS} {C : CS} {M : MS} {T : TS} : gR (hp X C M T) (some 18) 8 1 = some (some 21) := rfl
theorem gr_18_2 {X : XS} {C : CS} {M : MS} {T : TS} : gR (hp X C M T) (some 18) 8 2 = some (some 23) := rfl
theorem gr_18_3 {X : XS} {C : CS} {M : MS} {T : TS} : gR (hp X C M T) (some 18) 8 3 = some (some 25) := rfl
theorem io_19 {X : XS} {C : CS} {M : MS} {T : TS} : isO (hp X C M T) (some 19) 5 = true := rfl
theorem gi_19_0 {X : XS} {C : CS} {M : MS} {T : TS} : gI (hp X C M T) (some 19) 5 0 = some 2 := rfl
theorem gi_19_1 {X : XS} {C : CS} {M : MS} {T : TS} : gI (hp X C M T) (some 19) 5 1 = some 16 := rfl
theorem gr_19_2 {X : XS} {C : CS} {M : MS} {T : TS} : gR (hp X C M T) (some 19) 5 2 = some (some 20) := rfl
theorem gi_19_3 {X : XS} {C : CS} {M : MS} {T : TS} : gI (hp X C M T) (some 19) 5 3 = some (C.1 9) := rfl
theorem pi_19_3 {X : XS} {C : CS} {M : MS} {T : TS} (v : Int32) : pF (hp X C M T) (some 19) 5 3 (LI v) = some (hp X (c0 C 9 v) M T) := rfl
theorem gc_20 {X : XS} {C : CS} {M : MS} {T : TS} : gc (hp X C M T) 20 = .inl (0, 32, .inl (C.2.1 2)) := rfl
theorem sc_20 {X : XS} {C : CS} {M : MS} {T : TS} (f : Nat → Int32) : sc (hp X C M T) 20 (.inl (0, 32, .inl f)) = hp X (ca C 2 f) M T := rfl
theorem ln_20 {X : XS} {C : CS} {M : MS} {T : TS} : ln6 (hp X C M T) (some 20) = some (nI 32) := rfl
theorem io_21 {X : XS} {C : CS} {M : MS} {T : TS} : isO (hp X C M T) (some 21) 5 = true := rfl
theorem gi_21_0 {X : XS} {C : CS} {M : MS} {T : TS} : gI (hp X C M T) (some 21) 5 0 = some 3 := rfl
theorem gi_21_1 {X : XS} {C : CS} {M : MS} {T : TS} : gI (hp X C M T) (some 21) 5 1 = some 16 := rfl
theorem gr_21_2 {X : XS} {C : CS} {M : MS} {T : TS} : gR (hp X C M T) (some 21) 5 2 = some (some 22) := rfl
theorem gi_21_3 {X : XS} {C : CS} {M : MS} {T : TS} : gI (hp X C M T) (some 21) 5 3 = some (C.1 10) := rfl
theorem pi_21_3 {X : XS} {C : CS} {M : MS} {T : TS} (v : Int32) : pF (hp X C M T) (some 21) 5 3 (LI v) = some (hp X (c0 C 10 v) M T) := rfl
theorem gc_22 {X : XS} {C : CS} {M : MS} {T : TS} : gc (hp X C M T) 22 = .inl (0, 48, .inl (C.2.1 3)) := rfl
theorem sc_22 {X : XS} {C : CS} {M : MS} {T : TS} (f : Nat → Int32) : sc (hp X C M T) 22 (.inl (0, 48, .inl f)) = hp X (ca C 3 f) M T := rfl
theorem ln_22 {X : XS} {C : CS} {M : MS} {T : TS} : ln6 (hp X C M T) (some 22) = some (nI 48) := rfl
theorem io_23 {X : XS} {C : CS} {M : MS} {T : TS} : isO (hp X C M T) (some 23) 5 = true := rfl
theorem gi_23_0 {X : XS} {C : CS} {M : MS} {T : TS} : gI (hp X C M T) (some 23) 5 0 = some 5 := rfl
theorem gi_23_1 {X : XS} {C : CS} {M : MS} {T : TS} : gI (hp X C M T) (some 23) 5 1 = some 200 := rfl
theorem gr_23_2 {X : XS} {C : CS} {M : MS} {T : TS} : gR (hp X C M T) (some 23) 5 2 = some (some 24) := rfl
theorem gi_23_3 {X : XS} {C : CS} {M : MS} {T : TS} : gI (hp X C M T) (some 23) 5 3 = some (C.1 11) := rfl
theorem pi_23_3 {X : XS} {C : CS} {M : MS} {T : TS} (v : Int32) : pF (hp X C M T) (some 23) 5 3 (LI v) = some (hp X (c0 C 11 v) M T) := rfl
theorem gc_24 {X : XS} {C : CS} {M : MS} {T : TS} : gc (hp X C M T) 24 = .inl (0, 1000, .inl (C.2.1 4)) := rfl
theorem sc_24 {X : XS} {C : CS} {M : MS} {T : TS} (f : Nat → Int32) : sc (hp X C M T) 24 (.inl (0, 1000, .inl f)) = hp X (ca C 4 f) M T := rfl
theorem ln_24 {X : XS} {C : CS} {M : MS} {T : TS} : ln6 (hp X C M T) (some 24) = some (nI 1000) := rfl
theorem gc_25 {X : XS} {C : CS} {M : MS} {T : TS} : gc (hp X C M T) 25 = .inl (4, 4, .inr (C.2.2 1)) := rfl
theorem sc_25 {X : XS} {C : CS} {M : MS} {T : TS} (f : Nat → Option Nat) : sc (hp X C M T) 25 (.inl (4, 4, .inr f)) = hp X (cr C 1 f) M T := rfl
theorem ln_25 {X : XS} {C : CS} {M : MS} {T : TS} : ln6 (hp X C M T) (some 25) = some (nI 4) := rfl
theorem io_26 {X : XS} {C : CS} {M : MS} {T : TS} : isO (hp X C M T) (some 26) 3 = true := rfl
theorem gi_26_0 {X : XS} {C : CS} {M : MS} {T : TS} : gI (hp X C M T) (some 26) 3 0 = some 0 := rfl
theorem gr_26_1 {X : XS} {C : CS} {M : MS} {T : TS} : gR (hp X C M T) (some 26) 3 1 = some (some 27) := rfl
theorem gr_26_2 {X : XS} {C : CS} {M : MS} {T : TS} : gR (hp X C M T) (some 26) 3 2 = some (some 28) := rfl
theorem gc_27 {X : XS} {C : CS} {M : MS} {T : TS} : gc (hp X C M T) 27 = .inl (3, 0, .inr fun _ => none) := rfl
theorem ln_27 {X : XS} {C : CS} {M : MS} {T : TS} : ln6 (hp X C M T) (some 27) = some (nI 0) := rfl
theorem gc_28 {X : XS} {C : CS} {M : MS} {T : TS} : gc (hp X C M T) 28 = .inl (0, 0, .inl fun _ => 0) := rfl
theorem ln_28 {X : XS} {C : CS} {M : MS} {T : TS} : ln6 (hp X C M T) (some 28) = some (nI 0) := rfl
theorem gc_29 {X : XS} {C : CS} {M : MS} {T : TS} : gc (hp X C M T) 29 = .inl (5, 3, .inr (C.2.2 2)) := rfl
theorem sc_29 {X : XS} {C : CS} {M : MS} {T : TS} (f : Nat → Option Nat) : sc (hp X C M T) 29 (.inl (5, 3, .inr f)) = hp X (cr C 2 f) M T := rfl
theorem ln_29 {X : XS} {C : CS} {M : MS} {T : TS} : ln6 (hp X C M T) (some 29) = some (nI 3) := rfl
theorem io_30 {X : XS} {C : CS} {M : MS} {T : TS} : isO (hp X C M T) (some 30) 9 = true := rfl
theorem gr_30_0 {X : XS} {C : CS} {M : MS} {T : TS} : gR (hp X C M T) (some 30) 9 0 = some (some 31) := rfl
theorem gi_30_1 {X : XS} {C : CS} {M : MS} {T : TS} : gI (hp X C M T) (some 30) 9 1 = some (C.1 12) := rfl
theorem pi_30_1 {X : XS} {C : CS} {M : MS} {T : TS} (v : Int32) : pF (hp X C M T) (some 30) 9 1 (LI v) = some (hp X (c0 C 12 v) M T) := rfl
theorem gi_30_2 {X : XS} {C : CS} {M : MS} {T : TS} : gI (hp X C M T) (some 30) 9 2 = some (C.1 13) := rfl
theorem pi_30_2 {X : XS} {C : CS} {M : MS} {T : TS} (v : Int32) : pF (hp X C M T) (some 30) 9 2 (LI v) = some (hp X (c0 C 13 v) M T) := rfl
theorem gi_30_3 {X : XS} {C : CS} {M : MS} {T : TS} : gI (hp X C M T) (some 30) 9 3 = some (C.1 14) := rfl
theorem pi_30_3 {X : XS} {C : CS} {M : MS} {T : TS} (v : Int32) : pF (hp X C M T) (some 30) 9 3 (LI v) = some (hp X (c0 C 14 v) M T) := rfl
theorem gi_30_4 {X : XS} {C : CS} {M : MS} {T : TS} : gI (hp X C M T) (some 30) 9 4 = some (C.1 15) := rfl
theorem pi_30_4 {X : XS} {C : CS} {M : MS} {T : TS} (v : Int32) : pF (hp X C M T) (some 30) 9 4 (LI v) = some (hp X (c0 C 15 v) M T) := rfl
theorem gi_30_5 {X : XS} {C : CS} {M : MS} {T : TS} : gI (hp X C M T) (some 30) 9 5 = some (C.1 16) := rfl
theorem pi_30_5 {X : XS} {C : CS} {M : MS} {T : TS} (v : Int32) : pF (hp X C M T) (some 30) 9 5 (LI v) = some (hp X (c0 C 16 v) M T) := rfl
theorem gi_30_6 {X : XS} {C : CS} {M : MS} {T : TS} : gI (hp X C M T) (some 30) 9 6 = some (C.1 17) := rfl
theorem pi_30_6 {X : XS} {C : CS} {M : MS} {T : TS} (v : Int32) : pF (hp X C M T) (some 30) 9 6 (LI v) = some (hp X (c0 C 17 v) M T) := rfl
theorem gi_30_7 {X : XS} {C : CS} {M : MS} {T : TS} : gI (hp X C M T) (some 30) 9 7 = some (C.1 18) := rfl
theorem pi_30_7 {X : XS} {C : CS} {M : MS} {T : TS} (v : Int32) : pF (hp X C M T) (some 30) 9 7 (LI v) = some (hp X (c0 C 18 v) M T) := rfl
theorem gi_30_8 {X : XS} {C : CS} {M : MS} {T : TS} : gI (hp X C M T) (some 30) 9 8 = some (C.1 19) := rfl
theorem pi_30_8 {X : XS} {C : CS} {M : MS} {T : TS} (v : Int32) : pF (hp X C M T) (some 30) 9 8 (LI v) = some (hp X (c0 C 19 v) M T) := rfl
theorem gi_30_9 {X : XS} {C : CS} {M : MS} {T : TS} : gI (hp X C M T) (some 30) 9 9 = some (C.1 20) := rfl
theorem pi_30_9 {X : XS} {C : CS} {M : MS} {T : TS} (v : Int32) : pF (hp X C M T) (some 30) 9 9 (LI v) = some (hp X (c0 C 20 v) M T) := rfl
theorem gi_30_10 {X : XS} {C : CS} {M : MS} {T : TS} : gI (hp X C M T) (some 30) 9 10 = some (C.1 21) := rfl
theorem pi_30_10 {X : XS} {C : CS} {M : MS} {T : TS} (v : Int32) : pF (hp X C M T) (some 30) 9 10 (LI v) = some (hp X (c0 C 21 v) M T) := rfl
theorem gi_30_11 {X : XS} {C : CS} {M : MS} {T : TS} : gI (hp X C M T) (some 30) 9 11 = some (C.1 22) := rfl
theorem pz_30_11 {X : XS} {C : CS} {M : MS} {T : TS} (v : Int32) : pZ (hp X C M T) (some 30) 9 11 v = if v = 0 ∨ v = 1 then some (hp X (c0 C 22 v) M T) else none := rfl
theorem gc_31 {X : XS} {C : CS} {M : MS} {T : TS} : gc (hp X C M T) 31 = .inl (0, 16, .inl (C.2.1 5)) := rfl
theorem sc_31 {X : XS} {C : CS} {M : MS} {T : TS} (f : Nat → Int32) : sc (hp X C M T) 31 (.inl (0, 16, .inl f)) = hp X (ca C 5 f) M T := rfl
theorem ln_31 {X : XS} {C : CS} {M : MS} {T : TS} : ln6 (hp X C M T) (some 31) = some (nI 16) := rfl
theorem io_32 {X : XS} {C : CS} {M : MS} {T : TS} : isO (hp X C M T) (some 32) 4 = true := rfl
theorem gr_32_0 {X : XS} {C : CS} {M : MS} {T : TS} : gR (hp X C M T) (some 32) 4 0 = some (some 33) := rfl
theorem gr_32_1 {X : XS} {C : CS} {M : MS} {T : TS} : gR (hp X C M T) (some 32) 4 1 = some (some 34) := rfl
theorem gi_32_2 {X : XS} {C : CS} {M : MS} {T : TS} : gI (hp X C M T) (some 32) 4 2 = some (C.1 23) := rfl
theorem pi_32_2 {X : XS} {C : CS} {M : MS} {T : TS} (v : Int32) : pF (hp X C M T) (some 32) 4 2 (LI v) = some (hp X (c0 C 23 v) M T) := rfl
theorem gi_32_3 {X : XS} {C : CS} {M : MS} {T : TS} : gI (hp X C M T) (some 32) 4 3 = some (C.1 24) := rfl
theorem pi_32_3 {X : XS} {C : CS} {M : MS} {T : TS} (v : Int32) : pF (hp X C M T) (some 32) 4 3 (LI v) = some (hp X (c0 C 24 v) M T) := rfl
theorem gi_32_4 {X : XS} {C : CS} {M : MS} {T : TS} : gI (hp X C M T) (some 32) 4 4 = some (C.1 25) := rfl
theorem pi_32_4 {X : XS} {C : CS} {M : MS} {T : TS} (v : Int32) : pF (hp X C M T) (some 32) 4 4 (LI v) = some (hp X (c0 C 25 v) M T) := rfl
theorem gi_32_5 {X : XS} {C : CS} {M : MS} {T : TS} : gI (hp X C M T) (some 32) 4 5 = some (C.1 26) := rfl
theorem pi_32_5 {X : XS} {C : CS} {M : MS} {T : TS} (v : Int32) : pF (hp X C M T) (some 32) 4 5 (LI v) = some (hp X (c0 C 26 v) M T) := rfl
theorem gi_32_6 {X : XS} {C : CS} {M : MS} {T : TS} : gI (hp X C M T) (some 32) 4 6 = some (C.1 27) := rfl
theorem pi_32_6 {X : XS} {C : CS} {M : MS} {T : TS} (v : Int32) : pF (hp X C M T) (some 32) 4 6 (LI v) = some (hp X (c0 C 27 v) M T) := rfl
theorem gi_32_7 {X : XS} {C : CS} {M : MS} {T : TS} : gI (hp X C M T) (some 32) 4 7 = some (C.1 28) := rfl
theorem pi_32_7 {X : XS} {C : CS} {M : MS} {T : TS} (v : Int32) : pF (hp X C M T) (some 32) 4 7 (LI v) = some (hp X (c0 C 28 v) M T) := rfl
theorem gc_33 {X : XS} {C : CS} {M : MS} {T : TS} : gc (hp X C M T) 33 = .inl (0, 200, .inl (C.2.1 6)) := rfl
theorem sc_33 {X : XS} {C : CS} {M : MS} {T : TS} (f : Nat → Int32) : sc (hp X C M T) 33 (.inl (0, 200, .inl f)) = hp X (ca C 6 f) M T := rfl
theorem ln_33 {X : XS} {C : CS} {M : MS} {T : TS} : ln6 (hp X C M T) (some 33) = some (nI 200) := rfl
theorem gc_34 {X : XS} {C : CS} {M : MS} {T : TS} : gc (hp X C M T) 34 = .inl (0, 200, .inl (C.2.1 7)) := rfl
theorem sc_34 {X : XS} {C : CS} {M : MS} {T : TS} (f : Nat → Int32) : sc (hp X C M T) 34 (.inl (0, 200, .inl f)) = hp X (ca C 7 f) M T := rfl
theorem ln_34 {X : XS} {C : CS} {M : MS} {T : TS} : ln6 (hp X C M T) (some 34) = some (nI 200) := rfl
theorem io_35 {X : XS} {C : CS} {M : MS} {T : TS} : isO (hp X C M T) (some 35) 11 = true := rfl
theorem gi_35_0 {X : XS} {C : CS} {M : MS} {T : TS} : gI (hp X C M T) (some 35) 11 0 = some (M.1 0) := rfl
theorem pi_35_0 {X : XS} {C : CS} {M : MS} {T : TS} (v : Int32) : pF (hp X C M T) (some 35) 11 0 (LI v) = some (hp X C (m0 M 0 v) T) := rfl
theorem gr_35_1 {X : XS} {C : CS} {M : MS} {T : TS} : gR (hp X C M T) (some 35) 11 1 = some (some 36) := rfl
theorem gi_35_2 {X : XS} {C : CS} {M : MS} {T : TS} : gI (hp X C M T) (some 35) 11 2 = some (M.1 2) := rfl
theorem pi_35_2 {X : XS} {C : CS} {M : MS} {T : TS} (v : Int32) : pF (hp X C M T) (some 35) 11 2 (LI v) = some (hp X C (m0 M 2 v) T) := rfl
theorem gr_35_3 {X : XS} {C : CS} {M : MS} {T : TS} : gR (hp X C M T) (some 35) 11 3 = some (some 37) := rfl
theorem gr_35_4 {X : XS} {C : CS} {M : MS} {T : TS} : gR (hp X C M T) (some 35) 11 4 = some (some 38) := rfl
theorem gr_35_5 {X : XS} {C : CS} {M : MS} {T : TS} : gR (hp X C M T) (some 35) 11 5 = some (some 39) := rfl
theorem gr_35_6 {X : XS} {C : CS} {M : MS} {T : TS} : gR (hp X C M T) (some 35) 11 6 = some (some 40) := rfl
theorem gr_35_7 {X : XS} {C : CS} {M : MS} {T : TS} : gR (hp X C M T) (some 35) 11 7 = some (some 41) := rfl
theorem gr_35_8 {X : XS} {C : CS} {M : MS} {T : TS} : gR (hp X C M T) (some 35) 11 8 = some (some 42) := rfl
theorem gr_35_9 {X : XS} {C : CS} {M : MS} {T : TS} : gR (hp X C M T) (some 35) 11 9 = some (some 43) := rfl
theorem gr_35_10 {X : XS} {C : CS} {M : MS} {T : TS} : gR (hp X C M T) (some 35) 11 10 = some (some 44) := rfl
theorem gr_35_11 {X : XS} {C : CS} {M : MS} {T : TS} : gR (hp X C M T) (some 35) 11 11 = some (some 45) := rfl
theorem gr_35_12 {X : XS} {C : CS} {M : MS} {T : TS} : gR (hp X C M T) (some 35) 11 12 = some (some 46) := rfl
theorem gr_35_13 {X : XS} {C : CS} {M : MS} {T : TS} : gR (hp X C M T) (some 35) 11 13 = some (some 47) := rfl
theorem gr_35_14 {X : XS} {C : CS} {M : MS} {T : TS} : gR (hp X C M T) (some 35) 11 14 = some (some 48) := rfl
theorem gr_35_15 {X : XS} {C : CS} {M : MS} {T : TS} : gR (hp X C M T) (some 35) 11 15 = some (some 49) := rfl
theorem gr_35_16 {X : XS} {C : CS} {M : MS} {T : TS} : gR (hp X C M T) (some 35) 11 16 = some (some 50) := rfl
theorem gr_35_17 {X : XS} {C : CS} {M : MS} {T : TS} : gR (hp X C M T) (some 35) 11 17 = some (some 51) := rfl
theorem gi_35_18 {X : XS} {C : CS} {M : MS} {T : TS} : gI (hp X C M T) (some 35) 11 18 = some (M.1 18) := rfl
theorem pi_35_18 {X : XS} {C : CS} {M : MS} {T : TS} (v : Int32) : pF (hp X C M T) (some 35) 11 18 (LI v) = some (hp X C (m0 M 18 v) T) := rfl
theorem gi_35_19 {X : XS} {C : CS} {M : MS} {T : TS} : gI (hp X C M T) (some 35) 11 19 = some (M.1 19) := rfl
theorem pi_35_19 {X : XS} {C : CS} {M : MS} {T : TS} (v : Int32) : pF (hp X C M T) (some 35) 11 19 (LI v) = some (hp X C (m0 M 19 v) T) := rfl
theorem gi_35_20 {X : XS} {C : CS} {M : MS} {T : TS} : gI (hp X C M T) (some 35) 11 20 = some (M.1 20) := rfl
theorem pi_35_20 {X : XS} {C : CS} {M : MS} {T : TS} (v : Int32) : pF (hp X C M T) (some 35) 11 20 (LI v) = some (hp X C (m0 M 20 v) T) := rfl
theorem gi_35_21 {X : XS} {C : CS} {M : MS} {T : TS} : gI (hp X C M T) (some 35) 11 21 = some (M.1 21) := rfl
theorem pi_35_21 {X : XS} {C : CS} {M : MS} {T : TS} (v : Int32) : pF (hp X C M T) (some 35) 11 21 (LI v) = some (hp X C (m0 M 21 v) T) := rfl
theorem gi_35_22 {X : XS} {C : CS} {M : MS} {T : TS} : gI (hp X C M T) (some 35) 11 22 = some (M.1 22) := rfl
theorem pi_35_22 {X : XS} {C : CS} {M : MS} {T : TS} (v : Int32) : pF (hp X C M T) (some 35) 11 22 (LI v) = some (hp X C (m0 M 22 v) T) := rfl
theorem gj_35_23 {X : XS} {C : CS} {M : MS} {T : TS} : gJ (hp X C M T) (some 35) 11 23 = some M.2.1 := rfl
theorem pj_35_23 {X : XS} {C : CS} {M : MS} {T : TS} (v : Int64) : pF (hp X C M T) (some 35) 11 23 (LJ v) = some (hp X C (M.1, v, M.2.2) T) := rfl
theorem gi_35_24 {X : XS} {C : CS} {M : MS} {T : TS} : gI (hp X C M T) (some 35) 11 24 = some (M.1 24) := rfl
theorem pi_35_24 {X : XS} {C : CS} {M : MS} {T : TS} (v : Int32) : pF (hp X C M T) (some 35) 11 24 (LI v) = some (hp X C (m0 M 24 v) T) := rfl
theorem gi_35_25 {X : XS} {C : CS} {M : MS} {T : TS} : gI (hp X C M T) (some 35) 11 25 = some (M.1 25) := rfl
theorem pi_35_25 {X : XS} {C : CS} {M : MS} {T : TS} (v : Int32) : pF (hp X C M T) (some 35) 11 25 (LI v) = some (hp X C (m0 M 25 v) T) := rfl
theorem gi_35_26 {X : XS} {C : CS} {M : MS} {T : TS} : gI (hp X C M T) (some 35) 11 26 = some (M.1 26) := rfl
theorem pi_35_26 {X : XS} {C : CS} {M : MS} {T : TS} (v : Int32) : pF (hp X C M T) (some 35) 11 26 (LI v) = some (hp X C (m0 M 26 v) T) := rfl
theorem gi_35_27 {X : XS} {C : CS} {M : MS} {T : TS} : gI (hp X C M T) (some 35) 11 27 = some (M.1 27) := rfl
theorem pi_35_27 {X : XS} {C : CS} {M : MS} {T : TS} (v : Int32) : pF (hp X C M T) (some 35) 11 27 (LI v) = some (hp X C (m0 M 27 v) T) := rfl
theorem gi_35_28 {X : XS} {C : CS} {M : MS} {T : TS} : gI (hp X C M T) (some 35) 11 28 = some (M.1 28) := rfl
theorem pi_35_28 {X : XS} {C : CS} {M : MS} {T : TS} (v : Int32) : pF (hp X C M T) (some 35) 11 28 (LI v) = some (hp X C (m0 M 28 v) T) := rfl
theorem gi_35_29 {X : XS} {C : CS} {M : MS} {T : TS} : gI (hp X C M T) (some 35) 11 29 = some (M.1 29) := rfl
theorem pi_35_29 {X : XS} {C : CS} {M : MS} {T : TS} (v : Int32) : pF (hp X C M T) (some 35) 11 29 (LI v) = some (hp X C (m0 M 29 v) T) := rfl
theorem gi_35_30 {X : XS} {C : CS} {M : MS} {T : TS} : gI (hp X C M T) (some 35) 11 30 = some (M.1 30) := rfl
theorem pi_35_30 {X : XS} {C : CS} {M : MS} {T : TS} (v : Int32) : pF (hp X C M T) (some 35) 11 30 (LI v) = some (hp X C (m0 M 30 v) T) := rfl
theorem gi_35_31 {X : XS} {C : CS} {M : MS} {T : TS} : gI (hp X C M T) (some 35) 11 31 = some (M.1 31) := rfl
theorem pi_35_31 {X : XS} {C : CS} {M : MS} {T : TS} (v : Int32) : pF (hp X C M T) (some 35) 11 31 (LI v) = some (hp X C (m0 M 31 v) T) := rfl
theorem gr_35_32 {X : XS} {C : CS} {M : MS} {T : TS} : gR (hp X C M T) (some 35) 11 32 = some (some 52) := rfl
theorem gr_35_33 {X : XS} {C : CS} {M : MS} {T : TS} : gR (hp X C M T) (some 35) 11 33 = some (some 53) := rfl
theorem gr_35_34 {X : XS} {C : CS} {M : MS} {T : TS} : gR (hp X C M T) (some 35) 11 34 = some (some 54) := rfl
theorem gi_35_35 {X : XS} {C : CS} {M : MS} {T : TS} : gI (hp X C M T) (some 35) 11 35 = some (M.1 35) := rfl
theorem pi_35_35 {X : XS} {C : CS} {M : MS} {T : TS} (v : Int32) : pF (hp X C M T) (some 35) 11 35 (LI v) = some (hp X C (m0 M 35 v) T) := rfl
theorem gi_35_36 {X : XS} {C : CS} {M : MS} {T : TS} : gI (hp X C M T) (some 35) 11 36 = some (M.1 36) := rfl
theorem pi_35_36 {X : XS} {C : CS} {M : MS} {T : TS} (v : Int32) : pF (hp X C M T) (some 35) 11 36 (LI v) = some (hp X C (m0 M 36 v) T) := rfl
theorem gr_35_37 {X : XS} {C : CS} {M : MS} {T : TS} : gR (hp X C M T) (some 35) 11 37 = some (some 55) := rfl
theorem gr_35_38 {X : XS} {C : CS} {M : MS} {T : TS} : gR (hp X C M T) (some 35) 11 38 = some (some 56) := rfl
theorem gi_35_39 {X : XS} {C : CS} {M : MS} {T : TS} : gI (hp X C M T) (some 35) 11 39 = some (M.1 39) := rfl
theorem pi_35_39 {X : XS} {C : CS} {M : MS} {T : TS} (v : Int32) : pF (hp X C M T) (some 35) 11 39 (LI v) = some (hp X C (m0 M 39 v) T) := rfl
theorem gi_35_40 {X : XS} {C : CS} {M : MS} {T : TS} : gI (hp X C M T) (some 35) 11 40 = some (M.1 40) := rfl
theorem pi_35_40 {X : XS} {C : CS} {M : MS} {T : TS} (v : Int32) : pF (hp X C M T) (some 35) 11 40 (LI v) = some (hp X C (m0 M 40 v) T) := rfl
theorem gi_35_41 {X : XS} {C : CS} {M : MS} {T : TS} : gI (hp X C M T) (some 35) 11 41 = some (M.1 41) := rfl
theorem pz_35_41 {X : XS} {C : CS} {M : MS} {T : TS} (v : Int32) : pZ (hp X C M T) (some 35) 11 41 v = if v = 0 ∨ v = 1 then some (hp X C (m0 M 41 v) T) else none := rfl
theorem gi_35_42 {X : XS} {C : CS} {M : MS} {T : TS} : gI (hp X C M T) (some 35) 11 42 = some (M.1 42) := rfl
theorem pi_35_42 {X : XS} {C : CS} {M : MS} {T : TS} (v : Int32) : pF (hp X C M T) (some 35) 11 42 (LI v) = some (hp X C (m0 M 42 v) T) := rfl
theorem gi_35_43 {X : XS} {C : CS} {M : MS} {T : TS} : gI (hp X C M T) (some 35) 11 43 = some (M.1 43) := rfl
theorem pi_35_43 {X : XS} {C : CS} {M : MS} {T : TS} (v : Int32) : pF (hp X C M T) (some 35) 11 43 (LI v) = some (hp X C (m0 M 43 v) T) := rfl
theorem gi_35_44 {X : XS} {C : CS} {M : MS} {T : TS} : gI (hp X C M T) (some 35) 11 44 = some (M.1 44) := rfl
theorem pi_35_44 {X : XS} {C : CS} {M : MS} {T : TS} (v : Int32) : pF (hp X C M T) (some 35) 11 44 (LI v) = some (hp X C (m0 M 44 v) T) := rfl
theorem gr_35_45 {X : XS} {C : CS} {M : MS} {T : TS} : gR (hp X C M T) (some 35) 11 45 = some (some 57) := rfl
theorem gr_35_46 {X : XS} {C : CS} {M : MS} {T : TS} : gR (hp X C M T) (some 35) 11 46 = some (some 58) := rfl
theorem gr_35_47 {X : XS} {C : CS} {M : MS} {T : TS} : gR (hp X C M T) (some 35) 11 47 = some (some 59) := rfl
theorem gr_35_48 {X : XS} {C : CS} {M : MS} {T : TS} : gR (hp X C M T) (some 35) 11 48 = some (some 60) := rfl
theorem gr_35_49 {X : XS} {C : CS} {M : MS} {T : TS} : gR (hp X C M T) (some 35) 11 49 = some (some 61) := rfl
theorem gc_36 {X : XS} {C : CS} {M : MS} {T : TS} : gc (hp X C M T) 36 = .inl (1, 600, .inl (M.2.2 1)) := rfl
theorem sc_36 {X : XS} {C : CS} {M : MS} {T : TS} (f : Nat → Int32) : sc (hp X C M T) 36 (.inl (1, 600, .inl f)) = hp X C (ma M 1 f) T := rfl
theorem ln_36 {X : XS} {C : CS} {M : MS} {T : TS} : ln6 (hp X C M T) (some 36) = some (nI 600) := rfl
theorem gc_37 {X : XS} {C : CS} {M : MS} {T : TS} : gc (hp X C M T) 37 = .inl (0, 4, .inl (M.2.2 3)) := rfl
theorem sc_37 {X : XS} {C : CS} {M : MS} {T : TS} (f : Nat → Int32) : sc (hp X C M T) 37 (.inl (0, 4, .inl f)) = hp X C (ma M 3 f) T := rfl
theorem ln_37 {X : XS} {C : CS} {M : MS} {T : TS} : ln6 (hp X C M T) (some 37) = some (nI 4) := rfl
theorem gc_38 {X : XS} {C : CS} {M : MS} {T : TS} : gc (hp X C M T) 38 = .inl (0, 64, .inl (M.2.2 4)) := rfl
theorem sc_38 {X : XS} {C : CS} {M : MS} {T : TS} (f : Nat → Int32) : sc (hp X C M T) 38 (.inl (0, 64, .inl f)) = hp X C (ma M 4 f) T := rfl
theorem ln_38 {X : XS} {C : CS} {M : MS} {T : TS} : ln6 (hp X C M T) (some 38) = some (nI 64) := rfl
theorem gc_39 {X : XS} {C : CS} {M : MS} {T : TS} : gc (hp X C M T) 39 = .inl (0, 64, .inl (M.2.2 5)) := rfl
theorem sc_39 {X : XS} {C : CS} {M : MS} {T : TS} (f : Nat → Int32) : sc (hp X C M T) 39 (.inl (0, 64, .inl f)) = hp X C (ma M 5 f) T := rfl
theorem ln_39 {X : XS} {C : CS} {M : MS} {T : TS} : ln6 (hp X C M T) (some 39) = some (nI 64) := rfl
theorem gc_40 {X : XS} {C : CS} {M : MS} {T : TS} : gc (hp X C M T) 40 = .inl (0, 4, .inl (M.2.2 6)) := rfl
theorem sc_40 {X : XS} {C : CS} {M : MS} {T : TS} (f : Nat → Int32) : sc (hp X C M T) 40 (.inl (0, 4, .inl f)) = hp X C (ma M 6 f) T := rfl
theorem ln_40 {X : XS} {C : CS} {M : MS} {T : TS} : ln6 (hp X C M T) (some 40) = some (nI 4) := rfl
theorem gc_41 {X : XS} {C : CS} {M : MS} {T : TS} : gc (hp X C M T) 41 = .inl (0, 64, .inl (M.2.2 7)) := rfl
theorem sc_41 {X : XS} {C : CS} {M : MS} {T : TS} (f : Nat → Int32) : sc (hp X C M T) 41 (.inl (0, 64, .inl f)) = hp X C (ma M 7 f) T := rfl
theorem ln_41 {X : XS} {C : CS} {M : MS} {T : TS} : ln6 (hp X C M T) (some 41) = some (nI 64) := rfl
theorem gc_42 {X : XS} {C : CS} {M : MS} {T : TS} : gc (hp X C M T) 42 = .inl (0, 64, .inl (M.2.2 8)) := rfl
theorem sc_42 {X : XS} {C : CS} {M : MS} {T : TS} (f : Nat → Int32) : sc (hp X C M T) 42 (.inl (0, 64, .inl f)) = hp X C (ma M 8 f) T := rfl
theorem ln_42 {X : XS} {C : CS} {M : MS} {T : TS} : ln6 (hp X C M T) (some 42) = some (nI 64) := rfl
theorem gc_43 {X : XS} {C : CS} {M : MS} {T : TS} : gc (hp X C M T) 43 = .inl (0, 64, .inl (M.2.2 9)) := rfl
theorem sc_43 {X : XS} {C : CS} {M : MS} {T : TS} (f : Nat → Int32) : sc (hp X C M T) 43 (.inl (0, 64, .inl f)) = hp X C (ma M 9 f) T := rfl
theorem ln_43 {X : XS} {C : CS} {M : MS} {T : TS} : ln6 (hp X C M T) (some 43) = some (nI 64) := rfl
theorem gc_44 {X : XS} {C : CS} {M : MS} {T : TS} : gc (hp X C M T) 44 = .inl (0, 4, .inl (M.2.2 10)) := rfl
theorem sc_44 {X : XS} {C : CS} {M : MS} {T : TS} (f : Nat → Int32) : sc (hp X C M T) 44 (.inl (0, 4, .inl f)) = hp X C (ma M 10 f) T := rfl
theorem ln_44 {X : XS} {C : CS} {M : MS} {T : TS} : ln6 (hp X C M T) (some 44) = some (nI 4) := rfl
theorem gc_45 {X : XS} {C : CS} {M : MS} {T : TS} : gc (hp X C M T) 45 = .inl (0, 3200, .inl (M.2.2 11)) := rfl
theorem sc_45 {X : XS} {C : CS} {M : MS} {T : TS} (f : Nat → Int32) : sc (hp X C M T) 45 (.inl (0, 3200, .inl f)) = hp X C (ma M 11 f) T := rfl
theorem ln_45 {X : XS} {C : CS} {M : MS} {T : TS} : ln6 (hp X C M T) (some 45) = some (nI 3200) := rfl
theorem gc_46 {X : XS} {C : CS} {M : MS} {T : TS} : gc (hp X C M T) 46 = .inl (0, 800, .inl (M.2.2 12)) := rfl
theorem sc_46 {X : XS} {C : CS} {M : MS} {T : TS} (f : Nat → Int32) : sc (hp X C M T) 46 (.inl (0, 800, .inl f)) = hp X C (ma M 12 f) T := rfl
theorem ln_46 {X : XS} {C : CS} {M : MS} {T : TS} : ln6 (hp X C M T) (some 46) = some (nI 800) := rfl
theorem gc_47 {X : XS} {C : CS} {M : MS} {T : TS} : gc (hp X C M T) 47 = .inl (0, 16, .inl (M.2.2 13)) := rfl
theorem sc_47 {X : XS} {C : CS} {M : MS} {T : TS} (f : Nat → Int32) : sc (hp X C M T) 47 (.inl (0, 16, .inl f)) = hp X C (ma M 13 f) T := rfl
theorem ln_47 {X : XS} {C : CS} {M : MS} {T : TS} : ln6 (hp X C M T) (some 47) = some (nI 16) := rfl
theorem gc_48 {X : XS} {C : CS} {M : MS} {T : TS} : gc (hp X C M T) 48 = .inl (0, 16, .inl (M.2.2 14)) := rfl
theorem sc_48 {X : XS} {C : CS} {M : MS} {T : TS} (f : Nat → Int32) : sc (hp X C M T) 48 (.inl (0, 16, .inl f)) = hp X C (ma M 14 f) T := rfl
theorem ln_48 {X : XS} {C : CS} {M : MS} {T : TS} : ln6 (hp X C M T) (some 48) = some (nI 16) := rfl
theorem gc_49 {X : XS} {C : CS} {M : MS} {T : TS} : gc (hp X C M T) 49 = .inl (0, 1536, .inl (M.2.2 15)) := rfl
theorem sc_49 {X : XS} {C : CS} {M : MS} {T : TS} (f : Nat → Int32) : sc (hp X C M T) 49 (.inl (0, 1536, .inl f)) = hp X C (ma M 15 f) T := rfl
theorem ln_49 {X : XS} {C : CS} {M : MS} {T : TS} : ln6 (hp X C M T) (some 49) = some (nI 1536) := rfl
theorem gc_50 {X : XS} {C : CS} {M : MS} {T : TS} : gc (hp X C M T) 50 = .inl (1, 14400, .inl (M.2.2 16)) := rfl
theorem sc_50 {X : XS} {C : CS} {M : MS} {T : TS} (f : Nat → Int32) : sc (hp X C M T) 50 (.inl (1, 14400, .inl f)) = hp X C (ma M 16 f) T := rfl
theorem ln_50 {X : XS} {C : CS} {M : MS} {T : TS} : ln6 (hp X C M T) (some 50) = some (nI 14400) := rfl
theorem gc_51 {X : XS} {C : CS} {M : MS} {T : TS} : gc (hp X C M T) 51 = .inl (0, 14400, .inl (M.2.2 17)) := rfl
theorem sc_51 {X : XS} {C : CS} {M : MS} {T : TS} (f : Nat → Int32) : sc (hp X C M T) 51 (.inl (0, 14400, .inl f)) = hp X C (ma M 17 f) T := rfl
theorem ln_51 {X : XS} {C : CS} {M : MS} {T : TS} : ln6 (hp X C M T) (some 51) = some (nI 14400) := rfl
theorem gc_52 {X : XS} {C : CS} {M : MS} {T : TS} : gc (hp X C M T) 52 = .inl (0, 104, .inl (M.2.2 32)) := rfl
theorem sc_52 {X : XS} {C : CS} {M : MS} {T : TS} (f : Nat → Int32) : sc (hp X C M T) 52 (.inl (0, 104, .inl f)) = hp X C (ma M 32 f) T := rfl
theorem ln_52 {X : XS} {C : CS} {M : MS} {T : TS} : ln6 (hp X C M T) (some 52) = some (nI 104) := rfl
theorem gc_53 {X : XS} {C : CS} {M : MS} {T : TS} : gc (hp X C M T) 53 = .inl (1, 900, .inl (M.2.2 33)) := rfl
theorem sc_53 {X : XS} {C : CS} {M : MS} {T : TS} (f : Nat → Int32) : sc (hp X C M T) 53 (.inl (1, 900, .inl f)) = hp X C (ma M 33 f) T := rfl
theorem ln_53 {X : XS} {C : CS} {M : MS} {T : TS} : ln6 (hp X C M T) (some 53) = some (nI 900) := rfl
theorem gc_54 {X : XS} {C : CS} {M : MS} {T : TS} : gc (hp X C M T) 54 = .inl (0, 900, .inl (M.2.2 34)) := rfl
theorem sc_54 {X : XS} {C : CS} {M : MS} {T : TS} (f : Nat → Int32) : sc (hp X C M T) 54 (.inl (0, 900, .inl f)) = hp X C (ma M 34 f) T := rfl
theorem ln_54 {X : XS} {C : CS} {M : MS} {T : TS} : ln6 (hp X C M T) (some 54) = some (nI 900) := rfl
theorem gc_55 {X : XS} {C : CS} {M : MS} {T : TS} : gc (hp X C M T) 55 = .inl (0, 4, .inl (M.2.2 37)) := rfl
theorem sc_55 {X : XS} {C : CS} {M : MS} {T : TS} (f : Nat → Int32) : sc (hp X C M T) 55 (.inl (0, 4, .inl f)) = hp X C (ma M 37 f) T := rfl
theorem ln_55 {X : XS} {C : CS} {M : MS} {T : TS} : ln6 (hp X C M T) (some 55) = some (nI 4) := rfl
theorem gc_56 {X : XS} {C : CS} {M : MS} {T : TS} : gc (hp X C M T) 56 = .inl (0, 64, .inl (M.2.2 38)) := rfl
theorem sc_56 {X : XS} {C : CS} {M : MS} {T : TS} (f : Nat → Int32) : sc (hp X C M T) 56 (.inl (0, 64, .inl f)) = hp X C (ma M 38 f) T := rfl
theorem ln_56 {X : XS} {C : CS} {M : MS} {T : TS} : ln6 (hp X C M T) (some 56) = some (nI 64) := rfl
theorem gc_57 {X : XS} {C : CS} {M : MS} {T : TS} : gc (hp X C M T) 57 = .inl (0, 3, .inl (M.2.2 45)) := rfl
theorem sc_57 {X : XS} {C : CS} {M : MS} {T : TS} (f : Nat → Int32) : sc (hp X C M T) 57 (.inl (0, 3, .inl f)) = hp X C (ma M 45 f) T := rfl
theorem ln_57 {X : XS} {C : CS} {M : MS} {T : TS} : ln6 (hp X C M T) (some 57) = some (nI 3) := rfl
theorem gc_58 {X : XS} {C : CS} {M : MS} {T : TS} : gc (hp X C M T) 58 = .inl (0, 3, .inl (M.2.2 46)) := rfl
theorem sc_58 {X : XS} {C : CS} {M : MS} {T : TS} (f : Nat → Int32) : sc (hp X C M T) 58 (.inl (0, 3, .inl f)) = hp X C (ma M 46 f) T := rfl
theorem ln_58 {X : XS} {C : CS} {M : MS} {T : TS} : ln6 (hp X C M T) (some 58) = some (nI 3) := rfl
theorem gc_59 {X : XS} {C : CS} {M : MS} {T : TS} : gc (hp X C M T) 59 = .inl (0, 3, .inl (M.2.2 47)) := rfl
theorem sc_59 {X : XS} {C : CS} {M : MS} {T : TS} (f : Nat → Int32) : sc (hp X C M T) 59 (.inl (0, 3, .inl f)) = hp X C (ma M 47 f) T := rfl
theorem ln_59 {X : XS} {C : CS} {M : MS} {T : TS} : ln6 (hp X C M T) (some 59) = some (nI 3) := rfl
theorem gc_60 {X : XS} {C : CS} {M : MS} {T : TS} : gc (hp X C M T) 60 = .inl (0, 3, .inl (M.2.2 48)) := rfl
theorem sc_60 {X : XS} {C : CS} {M : MS} {T : TS} (f : Nat → Int32) : sc (hp X C M T) 60 (.inl (0, 3, .inl f)) = hp X C (ma M 48 f) T := rfl
theorem ln_60 {X : XS} {C : CS} {M : MS} {T : TS} : ln6 (hp X C M T) (some 60) = some (nI 3) := rfl
theorem gc_61 {X : XS} {C : CS} {M : MS} {T : TS} : gc (hp X C M T) 61 = .inl (2, 3, .inl (M.2.2 49)) := rfl
theorem sc_61 {X : XS} {C : CS} {M : MS} {T : TS} (f : Nat → Int32) : sc (hp X C M T) 61 (.inl (2, 3, .inl f)) = hp X C (ma M 49 f) T := rfl
theorem ln_61 {X : XS} {C : CS} {M : MS} {T : TS} : ln6 (hp X C M T) (some 61) = some (nI 3) := rfl
