/-! A machine of places: values whose references are places, cells, a heap; and a judgement V over it, which stands for W of the kit in any caller's context. -/
abbrev LV : Type := Int32 ⊕ (Option Nat ⊕ Int64)
abbrev LI (x : Int32) : LV := .inl x
abbrev LR (r : Option Nat) : LV := .inr (.inl r)
abbrev LJ (w : Int64) : LV := .inr (.inr w)
abbrev LC : Type := (Nat × Nat × ((Nat → Int32) ⊕ (Nat → Option Nat))) ⊕ (Nat × List LV)
abbrev LH : Type := List LC × Nat × Nat × (Nat → LC)
def ab_ : LC := .inr (999, [])
def hn (A : LH) : Nat := A.2.1
def hz (A : LH) : Nat := A.2.2.1
def gc (A : LH) (k : Nat) : LC := if k < 62 then A.1.getD k ab_ else A.2.2.2 k
def sc (A : LH) (k : Nat) (c : LC) : LH := if k < 62 then (A.1.set k c, A.2) else (A.1, A.2.1, A.2.2.1, va_up A.2.2.2 k c)
/-- a new cell of z slots; its place is 8 + hn A -/
def al (A : LH) (c : LC) (z : Nat) : LH := if 8 + hn A < 62 then (A.1.set (8 + hn A) c, hn A + 1, hz A + z, A.2.2.2) else (A.1, hn A + 1, hz A + z, va_up A.2.2.2 (8 + hn A) c)
/-- launch, classes' numbers, fields' slots, array classes, the first new address, addresses of what is only read, the script -/
abbrev GG : Type := Launch × (Nat → ClassId) × (Nat → Nat → Nat) × (Nat → ClassId) × Nat × (Nat → Nat) × Nat × (Nat → Int32)
abbrev g_l (g : GG) : Launch := g.1
abbrev g_D (g : GG) : va_G := (g.2.1, g.2.2.1)
abbrev g_A (g : GG) : Nat → ClassId := g.2.2.2.1
abbrev g_b (g : GG) : Nat := g.2.2.2.2.1
abbrev g_r (g : GG) : Nat → Nat := g.2.2.2.2.2.1
abbrev g_L (g : GG) : Nat := g.2.2.2.2.2.2.1
abbrev g_x (g : GG) : Nat → Int32 := g.2.2.2.2.2.2.2
def adr (g : GG) (k : Nat) : Nat := if k < 8 then g_r g k else g_b g + (k - 8)
def cv (g : GG) : LV → Value
  | .inl x => .int x
  | .inr (.inl none) => .null
  | .inr (.inl (some k)) => .ref (adr g k)
  | .inr (.inr w) => .long w
def ce (g : GG) : LC → va_E
  | .inl (t, n, .inl f) => .inl (g_A g t, n, .inl f)
  | .inl (t, n, .inr f) => .inl (g_A g t, n, .inr (.inr (.inr (.inr (fun j => (f j).map (adr g))))))
  | .inr (ci, fs) => .inr (ci, fs.map (cv g))
def wz (g : GG) (A : LH) : va_W := (List.range (hn A)).map fun i => (g_b g + i, ce g (gc A (8 + i)))
abbrev aw (g : GG) : Nat → Prop := fun q => g_b g ≤ q
abbrev vcl : List vw_C := [(RX0, TX0, 7), (RX1, TX1, 4), (RX2, TX2, 7), (RX3, TX3, 3), (RX4, TX4, 8), (RX5, TX5, 4), (RX6, TX6, 2), (RX7, TX7, 9), (RX8, TX8, 4), (RX9, TX9, 12), (RX10, TX10, 9), (RX11, TX11, 50)]
def tyz (g : GG) : List (ClassId × FieldType) := [(g_A g 0, .int), (g_A g 1, .byte), (g_A g 2, .boolean), (g_A g 3, .object RX0), (g_A g 4, .object RX3), (g_A g 5, .object RX8)]
def a_who : Nat → Int32 := fun k => if k = 0 then -1 else if k = 1 then 7 else if k = 2 then 15 else if k = 3 then -1 else 5
def a_what : Nat → Int32 := fun k => if k = 0 then -1 else if k = 1 then 7 else if k = 2 then 15 else 5
/-- what is only read: the script, two tables, the words -/
def roc (g : GG) (k : Nat) : LC := if k = 0 then .inl (0, g_L g, .inl (g_x g)) else if k = 1 then .inl (0, 5, .inl a_who) else if k = 2 then .inl (0, 4, .inl a_what) else .inr (100, [])
def isNest : Cond → Bool
  | .fieldLinkNest .. => true
  | .methodLinkNest .. => true
  | _ => false
def w_txt : String := "by first last stop let all group one owner clear read write share drop any kind thing level when or and not hour groups "
def w_byt : List Int32 := [98, 121, 32, 102, 105, 114, 115, 116, 32, 108, 97, 115, 116, 32, 115, 116, 111, 112, 32, 108, 101, 116, 32, 97, 108, 108, 32, 103, 114, 111, 117, 112, 32, 111, 110, 101, 32, 111, 119, 110, 101, 114, 32, 99, 108, 101, 97, 114, 32, 114, 101, 97, 100, 32, 119, 114, 105, 116, 101, 32, 115, 104, 97, 114, 101, 32, 100, 114, 111, 112, 32, 97, 110, 121, 32, 107, 105, 110, 100, 32, 116, 104, 105, 110, 103, 32, 108, 101, 118, 101, 108, 32, 119, 104, 101, 110, 32, 111, 114, 32, 97, 110, 100, 32, 110, 111, 116, 32, 104, 111, 117, 114, 32, 103, 114, 111, 117, 112, 115, 32]
/-- of the state at a method's entry: the tables, and what is only read -/
def RepS (g : GG) (U : State) (H : Heap) : Prop :=
  va_K (g_D g) vcl (tyz g) U ∧ (∀ w ∈ tables_1, isNest w = true → va_Nw w U) ∧
  (va_X (g_r g 0) (g_L g) (g_x g) U H ∧ g_r g 0 < g_b g) ∧ va_T .int (g_r g 1) 5 (fun j => .int (a_who j)) (aw g) U H ∧ va_T .int (g_r g 2) 4 (fun j => .int (a_what j)) (aw g) U H ∧
  va_Z RX2 "TOP_OF_WHO" "[I" (.ref (g_r g 1)) (aw g) U H ∧ va_Z RX2 "TOP_OF_WHAT" "[I" (.ref (g_r g 2)) (aw g) U H ∧
  va_Z "java/lang/String" "COMPACT_STRINGS" "Z" (.int 1) (aw g) U H ∧ vk_R RX7 85 w_txt (g_r g 3) U ∧ vk_S 1 [w_byt.length] [w_byt] (fun _ => g_r g 3) (fun _ => g_r g 4) (aw g) U H ∧ va_AO RX0 U ∧ va_AO RX3 U ∧ va_AO RX8 U ∧
  (va_Z "jdk/internal/util/Preconditions" "SIOOBE_FORMATTER" "Ljava/util/function/BiFunction;" .null (aw g) U H ∨ va_Z "jdk/internal/util/Preconditions" "SIOOBE_FORMATTER" "Ljava/util/function/BiFunction;" (.ref (g_r g 5)) (aw g) U H)
/-- the heap holds A -/
def RepD (g : GG) (A : LH) (H : Heap) : Prop :=
  va_P (g_D g) vcl (wz g A) H ∧ va_D (aw g) (wz g A) ∧ H.size = g_b g + hn A ∧ (∀ k, 8 + hn A ≤ k → gc A k = ab_) ∧ (∀ k, k < 8 → gc A k = roc g k) ∧ A.1.length = 62
def gtb : List Cond := lw_tbl.filter goodWord
/-- a method: name, code, locals, what it answers -/
abbrev MM : Type := MethodName × ByteArray × Nat × Option FieldType
abbrev mN (y : MM) : MethodName := y.1
abbrev mC (y : MM) : ByteArray := y.2.1
abbrev mL (y : MM) : Nat := y.2.2.1
abbrev mR (y : MM) : Option FieldType := y.2.2.2
def Lc (g : GG) (lc : Array Slot) (n : Nat) (ls : List (Option LV)) : Prop := lc.size = n ∧ lv_wf lc ∧ ∀ (i : Nat) (v : LV), ls[i]? = some (some v) → lc[i]? = some (Slot.val (cv g v))
/-- a frame of y, with room for d calls within one another and for A' -/
def Cx (g : GG) (y : MM) (d n0 z0 : Nat) (A' : LH) (p : Program) (R : Room) (s : State) (m : MethodId) (args : Array Value) (meth : Method) (c : Code) : Prop :=
  p.tables.exec = Jvm.exec ∧ c.code = mC y ∧ c.maxLocals = mL y ∧ s.vm.findClass (mN y).cls = some m.cls ∧ ((mN y).name = "<init>" → meth.name = "<init>") ∧ (∀ w ∈ lw_tbl, goodWord w = true → w.before args s = true) ∧ RepS g s s.heap ∧ g_b g ≤ s.heap.size ∧ d ≤ R.frames ∧ 40 * d ≤ R.locals ∧ hn A' ≤ n0 + R.cells ∧ hz A' ≤ z0 + R.slots
def rI (cc : ByteArray) (pc : Nat) : Option LV → Prop
  | none => decode cc pc = .ok (.return_, 1)
  | some (.inl _) => decode cc pc = .ok (.ireturn, 1)
  | some (.inr (.inl _)) => decode cc pc = .ok (.areturn, 1)
  | _ => False
def RtK (g : GG) (y : MM) (n0 z0 : Nat) (rr : Option LV) (A' : LH) (p : Program) (e : Env) (R : Room) (s : State) (m : MethodId) (args : Array Value) (below : List Frame) (meth : Method) (c : Code) (Q : State → Prop) : Prop :=
  ∀ (H : Heap) (locs : List Loc) (lc : Array Slot) (pc : Nat), RepD g A' H → va_S (aw g) s.heap H locs → rI (mC y) pc rr → W p (g_l g) e R s m args below meth c H locs (hn A' - n0) (hz A' - z0) Q (F0 m pc lc ((rr.map (cv g)).toList))
/-- from here the method y (entered with n0 cells, z0 slots) comes to its end, with the answer rr and the heap A' -/
def V (g : GG) (y : MM) (d n0 z0 : Nat) (rr : Option LV) (A' A : LH) (pc : Nat) (ls : List (Option LV)) (st : List LV) : Prop :=
  (hn A ≤ hn A' ∧ hz A ≤ hz A') ∧ (n0 ≤ hn A → z0 ≤ hz A → ∀ (p : Program) (e : Env) (R : Room) (s : State) (m : MethodId) (args : Array Value) (below : List Frame) (meth : Method) (c : Code) (Q : State → Prop) (H : Heap) (locs : List Loc) (lc : Array Slot),
    Cx g y d n0 z0 A' p R s m args meth c → RtK g y n0 z0 rr A' p e R s m args below meth c Q → RepD g A H → va_S (aw g) s.heap H locs → Lc g lc (mL y) ls →
    W p (g_l g) e R s m args below meth c H locs (hn A - n0) (hz A - z0) Q (F0 m pc lc (st.map (cv g))))
section VP
variable {g : GG} {y : MM} {d n0 z0 : Nat} {rr : Option LV} {A' A : LH} {pc : Nat} {ls : List (Option LV)} {st : List LV}
/-- an instruction that touches neither heap nor locals -/
theorem V.pure {pc2 : Nat} {st2 : List LV} (k : V g y d n0 z0 rr A' A pc2 ls st2)
    (h : ∀ (p : Program) (e : Env) (R : Room) (s : State) (m : MethodId) (args : Array Value) (below : List Frame) (meth : Method) (c : Code) (Q : State → Prop) (H : Heap) (locs : List Loc) (cells slots : Nat) (lc : Array Slot), Cx g y d n0 z0 A' p R s m args meth c → Lc g lc (mL y) ls →
      W p (g_l g) e R s m args below meth c H locs cells slots Q (F0 m pc2 lc (st2.map (cv g))) → W p (g_l g) e R s m args below meth c H locs cells slots Q (F0 m pc lc (st.map (cv g)))) : V g y d n0 z0 rr A' A pc ls st :=
  ⟨k.1, fun a b p e R s m args below meth c Q H locs lc X hR hD hS hl => h p e R s m args below meth c Q H locs _ _ lc X hl (k.2 a b p e R s m args below meth c Q H locs lc X hR hD hS hl)⟩
theorem V.iconst {n : Int} {v : Int32} (hd : decode (mC y) pc = .ok (.iconst n, 1)) (hv : Int32.ofInt n = v) (k : V g y d n0 z0 rr A' A (pc + 1) ls (LI v :: st)) : V g y d n0 z0 rr A' A pc ls st :=
  k.pure fun _ _ _ _ _ _ _ _ _ _ _ _ _ _ _ X _ w => lv_iconst X.1 X.2.1 hd hv w
theorem V.bipush {n : Int} {v : Int32} (hd : decode (mC y) pc = .ok (.bipush n, 2)) (hv : (Int8.ofInt n).toInt32 = v) (k : V g y d n0 z0 rr A' A (pc + 2) ls (LI v :: st)) : V g y d n0 z0 rr A' A pc ls st :=
  k.pure fun _ _ _ _ _ _ _ _ _ _ _ _ _ _ _ X _ w => lv_bipush X.1 X.2.1 hd hv w
theorem V.sipush {n : Int} {v : Int32} (hd : decode (mC y) pc = .ok (.sipush n, 3)) (hv : (Int16.ofInt n).toInt32 = v) (k : V g y d n0 z0 rr A' A (pc + 3) ls (LI v :: st)) : V g y d n0 z0 rr A' A pc ls st :=
  k.pure fun _ _ _ _ _ _ _ _ _ _ _ _ _ _ _ X _ w => lv_sipush X.1 X.2.1 hd hv w
theorem V.lconst {n : Fin 2} {v : Int64} (hd : decode (mC y) pc = .ok (.lconst n, 1)) (hv : Int64.ofNat (n : Nat) = v) (k : V g y d n0 z0 rr A' A (pc + 1) ls (LJ v :: st)) : V g y d n0 z0 rr A' A pc ls st :=
  k.pure fun _ _ _ _ _ _ _ _ _ _ _ _ _ _ _ X _ w => lv_lconst X.1 X.2.1 hd hv w
theorem V.null (hd : decode (mC y) pc = .ok (.aconst_null, 1)) (k : V g y d n0 z0 rr A' A (pc + 1) ls (LR none :: st)) : V g y d n0 z0 rr A' A pc ls st :=
  k.pure fun _ _ _ _ _ _ _ _ _ _ _ _ _ _ _ X _ w => lv_null X.1 X.2.1 hd w
theorem V.ldc {i : Nat} {v : Int32} (hc : Cond.constant (mN y).cls i v ∈ lw_tbl) (hd : decode (mC y) pc = .ok (.ldc i, 2)) (k : V g y d n0 z0 rr A' A (pc + 2) ls (LI v :: st)) : V g y d n0 z0 rr A' A pc ls st :=
  k.pure fun _ _ _ _ _ _ _ _ _ _ _ _ _ _ _ X _ w => lv_ldc X.1 X.2.1 X.2.2.2.1 (X.2.2.2.2.2.1 _ hc rfl) hd w
theorem V.ldc2 {i : Nat} {v : Int64} (hc : Cond.constantLong (mN y).cls i v ∈ lw_tbl) (hd : decode (mC y) pc = .ok (.ldc2_w i, 3)) (k : V g y d n0 z0 rr A' A (pc + 3) ls (LJ v :: st)) : V g y d n0 z0 rr A' A pc ls st :=
  k.pure fun _ _ _ _ _ _ _ _ _ _ _ _ _ _ _ X _ w => lv_ldc2 X.1 X.2.1 X.2.2.2.1 (X.2.2.2.2.2.1 _ hc rfl) hd w
theorem V.iload_n {j : Fin 4} {i : Nat} {v : Int32} (hd : decode (mC y) pc = .ok (.iload_n j, 1)) (hi : (j : Nat) = i) (hl : ls[i]? = some (some (LI v))) (k : V g y d n0 z0 rr A' A (pc + 1) ls (LI v :: st)) : V g y d n0 z0 rr A' A pc ls st :=
  k.pure fun _ _ _ _ _ _ _ _ _ _ _ _ _ _ _ X h w => lv_iload_n X.1 X.2.1 hd hi (h.2.2 i _ hl) w
theorem V.iload {i : Nat} {v : Int32} (hd : decode (mC y) pc = .ok (.iload i, 2)) (hl : ls[i]? = some (some (LI v))) (k : V g y d n0 z0 rr A' A (pc + 2) ls (LI v :: st)) : V g y d n0 z0 rr A' A pc ls st :=
  k.pure fun _ _ _ _ _ _ _ _ _ _ _ _ _ _ _ X h w => lv_iload X.1 X.2.1 hd (h.2.2 i _ hl) w
theorem V.lload_n {j : Fin 4} {i : Nat} {v : Int64} (hd : decode (mC y) pc = .ok (.lload_n j, 1)) (hi : (j : Nat) = i) (hl : ls[i]? = some (some (LJ v))) (k : V g y d n0 z0 rr A' A (pc + 1) ls (LJ v :: st)) : V g y d n0 z0 rr A' A pc ls st :=
  k.pure fun _ _ _ _ _ _ _ _ _ _ _ _ _ _ _ X h w => lv_lload_n X.1 X.2.1 hd hi (h.2.2 i _ hl) w
theorem V.aload_n {j : Fin 4} {i : Nat} {v : Option Nat} (hd : decode (mC y) pc = .ok (.aload_n j, 1)) (hi : (j : Nat) = i) (hl : ls[i]? = some (some (LR v))) (k : V g y d n0 z0 rr A' A (pc + 1) ls (LR v :: st)) : V g y d n0 z0 rr A' A pc ls st :=
  k.pure fun _ _ _ _ _ _ _ _ _ _ _ _ _ _ _ X h w => by
    cases v with
    | none => exact lv_aload_nN X.1 X.2.1 hd hi (h.2.2 i _ hl) w
    | some a => exact lv_aload_n X.1 X.2.1 hd hi (h.2.2 i _ hl) w
theorem V.aload {i : Nat} {v : Option Nat} (hd : decode (mC y) pc = .ok (.aload i, 2)) (hl : ls[i]? = some (some (LR v))) (k : V g y d n0 z0 rr A' A (pc + 2) ls (LR v :: st)) : V g y d n0 z0 rr A' A pc ls st :=
  k.pure fun _ _ _ _ _ _ _ _ _ _ _ _ _ _ _ X h w => by
    cases v with
    | none => exact lv_aloadN X.1 X.2.1 hd (h.2.2 i _ hl) w
    | some a => exact lv_aload X.1 X.2.1 hd (h.2.2 i _ hl) w
theorem V.iadd {a b : Int32} (hd : decode (mC y) pc = .ok (.iadd, 1)) (k : V g y d n0 z0 rr A' A (pc + 1) ls (LI (a + b) :: st)) : V g y d n0 z0 rr A' A pc ls (LI b :: LI a :: st) :=
  k.pure fun _ _ _ _ _ _ _ _ _ _ _ _ _ _ _ X _ w => lv_iadd X.1 X.2.1 hd w
theorem V.isub {a b : Int32} (hd : decode (mC y) pc = .ok (.isub, 1)) (k : V g y d n0 z0 rr A' A (pc + 1) ls (LI (a - b) :: st)) : V g y d n0 z0 rr A' A pc ls (LI b :: LI a :: st) :=
  k.pure fun _ _ _ _ _ _ _ _ _ _ _ _ _ _ _ X _ w => lv_isub X.1 X.2.1 hd w
theorem V.imul {a b : Int32} (hd : decode (mC y) pc = .ok (.imul, 1)) (k : V g y d n0 z0 rr A' A (pc + 1) ls (LI (a * b) :: st)) : V g y d n0 z0 rr A' A pc ls (LI b :: LI a :: st) :=
  k.pure fun _ _ _ _ _ _ _ _ _ _ _ _ _ _ _ X _ w => lv_imul X.1 X.2.1 hd w
theorem V.iand {a b : Int32} (hd : decode (mC y) pc = .ok (.iand, 1)) (k : V g y d n0 z0 rr A' A (pc + 1) ls (LI (a &&& b) :: st)) : V g y d n0 z0 rr A' A pc ls (LI b :: LI a :: st) :=
  k.pure fun _ _ _ _ _ _ _ _ _ _ _ _ _ _ _ X _ w => lv_iand X.1 X.2.1 hd w
theorem V.ior {a b : Int32} (hd : decode (mC y) pc = .ok (.ior, 1)) (k : V g y d n0 z0 rr A' A (pc + 1) ls (LI (a ||| b) :: st)) : V g y d n0 z0 rr A' A pc ls (LI b :: LI a :: st) :=
  k.pure fun _ _ _ _ _ _ _ _ _ _ _ _ _ _ _ X _ w => lv_ior X.1 X.2.1 hd w
theorem V.ixor {a b : Int32} (hd : decode (mC y) pc = .ok (.ixor, 1)) (k : V g y d n0 z0 rr A' A (pc + 1) ls (LI (a ^^^ b) :: st)) : V g y d n0 z0 rr A' A pc ls (LI b :: LI a :: st) :=
  k.pure fun _ _ _ _ _ _ _ _ _ _ _ _ _ _ _ X _ w => lv_ixor X.1 X.2.1 hd w
theorem V.ineg {a : Int32} (hd : decode (mC y) pc = .ok (.ineg, 1)) (k : V g y d n0 z0 rr A' A (pc + 1) ls (LI (-a) :: st)) : V g y d n0 z0 rr A' A pc ls (LI a :: st) :=
  k.pure fun _ _ _ _ _ _ _ _ _ _ _ _ _ _ _ X _ w => lv_ineg X.1 X.2.1 hd w
theorem V.idiv {a b : Int32} (hne : ¬ b = 0) (hd : decode (mC y) pc = .ok (.idiv, 1)) (k : V g y d n0 z0 rr A' A (pc + 1) ls (LI (a / b) :: st)) : V g y d n0 z0 rr A' A pc ls (LI b :: LI a :: st) :=
  k.pure fun _ _ _ _ _ _ _ _ _ _ _ _ _ _ _ X _ w => lv_idiv X.1 X.2.1 hd hne w
theorem V.irem {a b : Int32} (hne : ¬ b = 0) (hd : decode (mC y) pc = .ok (.irem, 1)) (k : V g y d n0 z0 rr A' A (pc + 1) ls (LI (a - a / b * b) :: st)) : V g y d n0 z0 rr A' A pc ls (LI b :: LI a :: st) :=
  k.pure fun _ _ _ _ _ _ _ _ _ _ _ _ _ _ _ X _ w => lv_irem X.1 X.2.1 hd hne w
theorem V.ishl {a b : Int32} (hd : decode (mC y) pc = .ok (.ishl, 1)) (k : V g y d n0 z0 rr A' A (pc + 1) ls (LI (a <<< (b &&& 31)) :: st)) : V g y d n0 z0 rr A' A pc ls (LI b :: LI a :: st) :=
  k.pure fun _ _ _ _ _ _ _ _ _ _ _ _ _ _ _ X _ w => lv_ishl X.1 X.2.1 hd w
theorem V.ishr {a b : Int32} (hd : decode (mC y) pc = .ok (.ishr, 1)) (k : V g y d n0 z0 rr A' A (pc + 1) ls (LI (a >>> (b &&& 31)) :: st)) : V g y d n0 z0 rr A' A pc ls (LI b :: LI a :: st) :=
  k.pure fun _ _ _ _ _ _ _ _ _ _ _ _ _ _ _ X _ w => lv_ishr X.1 X.2.1 hd w
def ush (a b : Int32) : Int32 := (a.toUInt32 >>> (b.toUInt32 &&& Int32.toUInt32 31)).toInt32
theorem V.iushr {a b : Int32} (hd : decode (mC y) pc = .ok (.iushr, 1)) (k : V g y d n0 z0 rr A' A (pc + 1) ls (LI (ush a b) :: st)) : V g y d n0 z0 rr A' A pc ls (LI b :: LI a :: st) :=
  k.pure fun _ _ _ _ _ _ _ _ _ _ _ _ _ _ _ X _ w => lv_iushr X.1 X.2.1 hd rfl w
theorem V.i2b {a : Int32} (hd : decode (mC y) pc = .ok (.i2b, 1)) (k : V g y d n0 z0 rr A' A (pc + 1) ls (LI (a.toInt8.toInt32) :: st)) : V g y d n0 z0 rr A' A pc ls (LI a :: st) :=
  k.pure fun _ _ _ _ _ _ _ _ _ _ _ _ _ _ _ X _ w => lv_i2b X.1 X.2.1 hd rfl w
theorem V.i2c {a : Int32} (hd : decode (mC y) pc = .ok (.i2c, 1)) (k : V g y d n0 z0 rr A' A (pc + 1) ls (LI ((a.toUInt32 % 65536).toInt32) :: st)) : V g y d n0 z0 rr A' A pc ls (LI a :: st) :=
  k.pure fun _ _ _ _ _ _ _ _ _ _ _ _ _ _ _ X _ w => lv_i2c X.1 X.2.1 hd rfl w
theorem V.i2l {a : Int32} (hd : decode (mC y) pc = .ok (.i2l, 1)) (k : V g y d n0 z0 rr A' A (pc + 1) ls (LJ (a.toInt64) :: st)) : V g y d n0 z0 rr A' A pc ls (LI a :: st) :=
  k.pure fun _ _ _ _ _ _ _ _ _ _ _ _ _ _ _ X _ w => lv_i2l X.1 X.2.1 hd rfl w
theorem V.lshl {a : Int64} {b : Int32} (hd : decode (mC y) pc = .ok (.lshl, 1)) (k : V g y d n0 z0 rr A' A (pc + 1) ls (LJ (a <<< (b.toInt64 &&& 63)) :: st)) : V g y d n0 z0 rr A' A pc ls (LI b :: LJ a :: st) :=
  k.pure fun _ _ _ _ _ _ _ _ _ _ _ _ _ _ _ X _ w => lv_lshl X.1 X.2.1 hd rfl w
theorem V.lor {a b : Int64} (hd : decode (mC y) pc = .ok (.lor, 1)) (k : V g y d n0 z0 rr A' A (pc + 1) ls (LJ (a ||| b) :: st)) : V g y d n0 z0 rr A' A pc ls (LJ b :: LJ a :: st) :=
  k.pure fun _ _ _ _ _ _ _ _ _ _ _ _ _ _ _ X _ w => lv_lor X.1 X.2.1 hd w
theorem V.lcmp {a b : Int64} (hd : decode (mC y) pc = .ok (.lcmp, 1)) (k : V g y d n0 z0 rr A' A (pc + 1) ls (LI (lg_cmp a b) :: st)) : V g y d n0 z0 rr A' A pc ls (LJ b :: LJ a :: st) :=
  k.pure fun _ _ _ _ _ _ _ _ _ _ _ _ _ _ _ X _ w => W.lcmp X.1 X.2.1 hd w
def c1 : LV → Bool
  | .inr (.inr _) => false
  | _ => true
theorem cv_cat {v : LV} (h : c1 v = true) : (cv g v).category = 1 := by
  obtain x | (_ | a) | w := v
  · rfl
  · rfl
  · rfl
  · cases h
theorem V.dup {a : LV} (hd : decode (mC y) pc = .ok (.dup, 1)) (hc : c1 a = true) (k : V g y d n0 z0 rr A' A (pc + 1) ls (a :: a :: st)) : V g y d n0 z0 rr A' A pc ls (a :: st) :=
  k.pure fun _ _ _ _ _ _ _ _ _ _ _ _ _ _ _ X _ w => lv_dup X.1 X.2.1 hd (cv_cat hc) w
theorem V.pop {a : LV} (hd : decode (mC y) pc = .ok (.pop, 1)) (hc : c1 a = true) (k : V g y d n0 z0 rr A' A (pc + 1) ls st) : V g y d n0 z0 rr A' A pc ls (a :: st) :=
  k.pure fun _ _ _ _ _ _ _ _ _ _ _ _ _ _ _ X _ w => lv_pop X.1 X.2.1 hd (cv_cat hc) w
theorem V.dup2 {a b : LV} (hd : decode (mC y) pc = .ok (.dup2, 1)) (hc : c1 a = true) (hc2 : c1 b = true) (k : V g y d n0 z0 rr A' A (pc + 1) ls (a :: b :: a :: b :: st)) : V g y d n0 z0 rr A' A pc ls (a :: b :: st) :=
  k.pure fun _ _ _ _ _ _ _ _ _ _ _ _ _ _ _ X _ w => lv_dup2_11 X.1 X.2.1 hd (cv_cat hc) (cv_cat hc2) w
theorem V.goto {off : Int} {tgt : Nat} (hd : decode (mC y) pc = .ok (.goto off, 3)) (ht : (pc : Int) + off = (tgt : Int)) (k : V g y d n0 z0 rr A' A tgt ls st) : V g y d n0 z0 rr A' A pc ls st :=
  k.pure fun _ _ _ _ _ _ _ _ _ _ _ _ _ _ _ X _ w => lv_goto X.1 X.2.1 hd ht w
theorem V.ifnull_t {off : Int} {tgt : Nat} (hd : decode (mC y) pc = .ok (.ifnull off, 3)) (ht : (pc : Int) + off = (tgt : Int)) (k : V g y d n0 z0 rr A' A tgt ls st) : V g y d n0 z0 rr A' A pc ls (LR none :: st) :=
  k.pure fun _ _ _ _ _ _ _ _ _ _ _ _ _ _ _ X _ w => lv_ifnullN X.1 X.2.1 hd ht w
theorem V.ifnull_f {off : Int} {a : Nat} (hd : decode (mC y) pc = .ok (.ifnull off, 3)) (k : V g y d n0 z0 rr A' A (pc + 3) ls st) : V g y d n0 z0 rr A' A pc ls (LR (some a) :: st) :=
  k.pure fun _ _ _ _ _ _ _ _ _ _ _ _ _ _ _ X _ w => lv_ifnull X.1 X.2.1 hd w
theorem V.ifnonnull_t {off : Int} {tgt a : Nat} (hd : decode (mC y) pc = .ok (.ifnonnull off, 3)) (ht : (pc : Int) + off = (tgt : Int)) (k : V g y d n0 z0 rr A' A tgt ls st) : V g y d n0 z0 rr A' A pc ls (LR (some a) :: st) :=
  k.pure fun _ _ _ _ _ _ _ _ _ _ _ _ _ _ _ X _ w => lv_ifnonnull X.1 X.2.1 hd ht w
theorem V.ifnonnull_f {off : Int} (hd : decode (mC y) pc = .ok (.ifnonnull off, 3)) (k : V g y d n0 z0 rr A' A (pc + 3) ls st) : V g y d n0 z0 rr A' A pc ls (LR none :: st) :=
  k.pure fun _ _ _ _ _ _ _ _ _ _ _ _ _ _ _ X _ w => lv_ifnonnullN X.1 X.2.1 hd w
theorem V.if_eq {x : Int32} {off : Int} {tgt : Nat} (hd : decode (mC y) pc = .ok (.ifCond .eq off, 3)) (ht : (pc : Int) + off = (tgt : Int)) (kt : x = 0 → V g y d n0 z0 rr A' A tgt ls st) (kf : ¬ x = 0 → V g y d n0 z0 rr A' A (pc + 3) ls st) : V g y d n0 z0 rr A' A pc ls (LI x :: st) := by
  by_cases hc : x = 0
  · exact (kt hc).pure fun _ _ _ _ _ _ _ _ _ _ _ _ _ _ _ X _ w => lv_if_eq X.1 X.2.1 hd ht (fun _ => w) (fun h => absurd hc (by simpa using h))
  · exact (kf (by simpa using hc)).pure fun _ _ _ _ _ _ _ _ _ _ _ _ _ _ _ X _ w => lv_if_eq X.1 X.2.1 hd ht (fun h => absurd h hc) (fun _ => w)
theorem V.icmp_eq {x y' : Int32} {off : Int} {tgt : Nat} (hd : decode (mC y) pc = .ok (.if_icmp .eq off, 3)) (ht : (pc : Int) + off = (tgt : Int)) (kt : x = y' → V g y d n0 z0 rr A' A tgt ls st) (kf : ¬ x = y' → V g y d n0 z0 rr A' A (pc + 3) ls st) : V g y d n0 z0 rr A' A pc ls (LI y' :: LI x :: st) := by
  by_cases hc : x = y'
  · exact (kt hc).pure fun _ _ _ _ _ _ _ _ _ _ _ _ _ _ _ X _ w => lv_icmp_eq X.1 X.2.1 hd ht (fun _ => w) (fun h => absurd hc (by simpa using h))
  · exact (kf (by simpa using hc)).pure fun _ _ _ _ _ _ _ _ _ _ _ _ _ _ _ X _ w => lv_icmp_eq X.1 X.2.1 hd ht (fun h => absurd h hc) (fun _ => w)
theorem V.if_ne {x : Int32} {off : Int} {tgt : Nat} (hd : decode (mC y) pc = .ok (.ifCond .ne off, 3)) (ht : (pc : Int) + off = (tgt : Int)) (kt : ¬ x = 0 → V g y d n0 z0 rr A' A tgt ls st) (kf : x = 0 → V g y d n0 z0 rr A' A (pc + 3) ls st) : V g y d n0 z0 rr A' A pc ls (LI x :: st) := by
  by_cases hc : ¬ x = 0
  · exact (kt hc).pure fun _ _ _ _ _ _ _ _ _ _ _ _ _ _ _ X _ w => lv_if_ne X.1 X.2.1 hd ht (fun _ => w) (fun h => absurd hc (by simpa using h))
  · exact (kf (by simpa using hc)).pure fun _ _ _ _ _ _ _ _ _ _ _ _ _ _ _ X _ w => lv_if_ne X.1 X.2.1 hd ht (fun h => absurd h hc) (fun _ => w)
theorem V.icmp_ne {x y' : Int32} {off : Int} {tgt : Nat} (hd : decode (mC y) pc = .ok (.if_icmp .ne off, 3)) (ht : (pc : Int) + off = (tgt : Int)) (kt : ¬ x = y' → V g y d n0 z0 rr A' A tgt ls st) (kf : x = y' → V g y d n0 z0 rr A' A (pc + 3) ls st) : V g y d n0 z0 rr A' A pc ls (LI y' :: LI x :: st) := by
  by_cases hc : ¬ x = y'
  · exact (kt hc).pure fun _ _ _ _ _ _ _ _ _ _ _ _ _ _ _ X _ w => lv_icmp_ne X.1 X.2.1 hd ht (fun _ => w) (fun h => absurd hc (by simpa using h))
  · exact (kf (by simpa using hc)).pure fun _ _ _ _ _ _ _ _ _ _ _ _ _ _ _ X _ w => lv_icmp_ne X.1 X.2.1 hd ht (fun h => absurd h hc) (fun _ => w)
theorem V.if_lt {x : Int32} {off : Int} {tgt : Nat} (hd : decode (mC y) pc = .ok (.ifCond .lt off, 3)) (ht : (pc : Int) + off = (tgt : Int)) (kt : x < 0 → V g y d n0 z0 rr A' A tgt ls st) (kf : ¬ x < 0 → V g y d n0 z0 rr A' A (pc + 3) ls st) : V g y d n0 z0 rr A' A pc ls (LI x :: st) := by
  by_cases hc : x < 0
  · exact (kt hc).pure fun _ _ _ _ _ _ _ _ _ _ _ _ _ _ _ X _ w => lv_if_lt X.1 X.2.1 hd ht (fun _ => w) (fun h => absurd hc (by simpa using h))
  · exact (kf (by simpa using hc)).pure fun _ _ _ _ _ _ _ _ _ _ _ _ _ _ _ X _ w => lv_if_lt X.1 X.2.1 hd ht (fun h => absurd h hc) (fun _ => w)
theorem V.icmp_lt {x y' : Int32} {off : Int} {tgt : Nat} (hd : decode (mC y) pc = .ok (.if_icmp .lt off, 3)) (ht : (pc : Int) + off = (tgt : Int)) (kt : x < y' → V g y d n0 z0 rr A' A tgt ls st) (kf : ¬ x < y' → V g y d n0 z0 rr A' A (pc + 3) ls st) : V g y d n0 z0 rr A' A pc ls (LI y' :: LI x :: st) := by
  by_cases hc : x < y'
  · exact (kt hc).pure fun _ _ _ _ _ _ _ _ _ _ _ _ _ _ _ X _ w => lv_icmp_lt X.1 X.2.1 hd ht (fun _ => w) (fun h => absurd hc (by simpa using h))
  · exact (kf (by simpa using hc)).pure fun _ _ _ _ _ _ _ _ _ _ _ _ _ _ _ X _ w => lv_icmp_lt X.1 X.2.1 hd ht (fun h => absurd h hc) (fun _ => w)
theorem V.if_ge {x : Int32} {off : Int} {tgt : Nat} (hd : decode (mC y) pc = .ok (.ifCond .ge off, 3)) (ht : (pc : Int) + off = (tgt : Int)) (kt : 0 ≤ x → V g y d n0 z0 rr A' A tgt ls st) (kf : ¬ 0 ≤ x → V g y d n0 z0 rr A' A (pc + 3) ls st) : V g y d n0 z0 rr A' A pc ls (LI x :: st) := by
  by_cases hc : 0 ≤ x
  · exact (kt hc).pure fun _ _ _ _ _ _ _ _ _ _ _ _ _ _ _ X _ w => lv_if_ge X.1 X.2.1 hd ht (fun _ => w) (fun h => absurd hc (by simpa using h))
  · exact (kf (by simpa using hc)).pure fun _ _ _ _ _ _ _ _ _ _ _ _ _ _ _ X _ w => lv_if_ge X.1 X.2.1 hd ht (fun h => absurd h hc) (fun _ => w)
theorem V.icmp_ge {x y' : Int32} {off : Int} {tgt : Nat} (hd : decode (mC y) pc = .ok (.if_icmp .ge off, 3)) (ht : (pc : Int) + off = (tgt : Int)) (kt : y' ≤ x → V g y d n0 z0 rr A' A tgt ls st) (kf : ¬ y' ≤ x → V g y d n0 z0 rr A' A (pc + 3) ls st) : V g y d n0 z0 rr A' A pc ls (LI y' :: LI x :: st) := by
  by_cases hc : y' ≤ x
  · exact (kt hc).pure fun _ _ _ _ _ _ _ _ _ _ _ _ _ _ _ X _ w => lv_icmp_ge X.1 X.2.1 hd ht (fun _ => w) (fun h => absurd hc (by simpa using h))
  · exact (kf (by simpa using hc)).pure fun _ _ _ _ _ _ _ _ _ _ _ _ _ _ _ X _ w => lv_icmp_ge X.1 X.2.1 hd ht (fun h => absurd h hc) (fun _ => w)
theorem V.if_gt {x : Int32} {off : Int} {tgt : Nat} (hd : decode (mC y) pc = .ok (.ifCond .gt off, 3)) (ht : (pc : Int) + off = (tgt : Int)) (kt : 0 < x → V g y d n0 z0 rr A' A tgt ls st) (kf : ¬ 0 < x → V g y d n0 z0 rr A' A (pc + 3) ls st) : V g y d n0 z0 rr A' A pc ls (LI x :: st) := by
  by_cases hc : 0 < x
  · exact (kt hc).pure fun _ _ _ _ _ _ _ _ _ _ _ _ _ _ _ X _ w => lv_if_gt X.1 X.2.1 hd ht (fun _ => w) (fun h => absurd hc (by simpa using h))
  · exact (kf (by simpa using hc)).pure fun _ _ _ _ _ _ _ _ _ _ _ _ _ _ _ X _ w => lv_if_gt X.1 X.2.1 hd ht (fun h => absurd h hc) (fun _ => w)
theorem V.icmp_gt {x y' : Int32} {off : Int} {tgt : Nat} (hd : decode (mC y) pc = .ok (.if_icmp .gt off, 3)) (ht : (pc : Int) + off = (tgt : Int)) (kt : y' < x → V g y d n0 z0 rr A' A tgt ls st) (kf : ¬ y' < x → V g y d n0 z0 rr A' A (pc + 3) ls st) : V g y d n0 z0 rr A' A pc ls (LI y' :: LI x :: st) := by
  by_cases hc : y' < x
  · exact (kt hc).pure fun _ _ _ _ _ _ _ _ _ _ _ _ _ _ _ X _ w => lv_icmp_gt X.1 X.2.1 hd ht (fun _ => w) (fun h => absurd hc (by simpa using h))
  · exact (kf (by simpa using hc)).pure fun _ _ _ _ _ _ _ _ _ _ _ _ _ _ _ X _ w => lv_icmp_gt X.1 X.2.1 hd ht (fun h => absurd h hc) (fun _ => w)
theorem V.if_le {x : Int32} {off : Int} {tgt : Nat} (hd : decode (mC y) pc = .ok (.ifCond .le off, 3)) (ht : (pc : Int) + off = (tgt : Int)) (kt : x ≤ 0 → V g y d n0 z0 rr A' A tgt ls st) (kf : ¬ x ≤ 0 → V g y d n0 z0 rr A' A (pc + 3) ls st) : V g y d n0 z0 rr A' A pc ls (LI x :: st) := by
  by_cases hc : x ≤ 0
  · exact (kt hc).pure fun _ _ _ _ _ _ _ _ _ _ _ _ _ _ _ X _ w => lv_if_le X.1 X.2.1 hd ht (fun _ => w) (fun h => absurd hc (by simpa using h))
  · exact (kf (by simpa using hc)).pure fun _ _ _ _ _ _ _ _ _ _ _ _ _ _ _ X _ w => lv_if_le X.1 X.2.1 hd ht (fun h => absurd h hc) (fun _ => w)
theorem V.icmp_le {x y' : Int32} {off : Int} {tgt : Nat} (hd : decode (mC y) pc = .ok (.if_icmp .le off, 3)) (ht : (pc : Int) + off = (tgt : Int)) (kt : x ≤ y' → V g y d n0 z0 rr A' A tgt ls st) (kf : ¬ x ≤ y' → V g y d n0 z0 rr A' A (pc + 3) ls st) : V g y d n0 z0 rr A' A pc ls (LI y' :: LI x :: st) := by
  by_cases hc : x ≤ y'
  · exact (kt hc).pure fun _ _ _ _ _ _ _ _ _ _ _ _ _ _ _ X _ w => lv_icmp_le X.1 X.2.1 hd ht (fun _ => w) (fun h => absurd hc (by simpa using h))
  · exact (kf (by simpa using hc)).pure fun _ _ _ _ _ _ _ _ _ _ _ _ _ _ _ X _ w => lv_icmp_le X.1 X.2.1 hd ht (fun h => absurd h hc) (fun _ => w)
end VP
