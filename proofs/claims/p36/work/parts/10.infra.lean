/-! THE ABSTRACT WORLD: one heap of names; ints are whole numbers; the machine's addresses are hidden by a naming ad. -/
abbrev zV : Type := Int ⊕ (Option Nat) ⊕ Int ⊕ UInt32 ⊕ UInt64 ⊕ Bool
abbrev zI (z : Int) : zV := .inl z
abbrev zR (r : Option Nat) : zV := .inr (.inl r)
abbrev zL (z : Int) : zV := .inr (.inr (.inl z))
abbrev zF (u : UInt32) : zV := .inr (.inr (.inr (.inl u)))
abbrev zD (u : UInt64) : zV := .inr (.inr (.inr (.inr (.inl u))))
abbrev zX : zV := .inr (.inr (.inr (.inr (.inr false))))
/-- the law's script, at ad 1 -/
abbrev zY : zV := .inr (.inr (.inr (.inr (.inr true))))
/-- the machine's value -/
def zc (ad : Nat → Nat) : zV → Value
  | .inl z => .int (Int32.ofInt z)
  | .inr (.inl r) => va_rf (r.map ad)
  | .inr (.inr (.inl z)) => .long (Int64.ofInt z)
  | .inr (.inr (.inr (.inl u))) => .float u
  | .inr (.inr (.inr (.inr (.inl u)))) => .double u
  | .inr (.inr (.inr (.inr (.inr false)))) => .null
  | .inr (.inr (.inr (.inr (.inr true)))) => .ref (ad 1)
theorem zc_I (ad : Nat → Nat) (z : Int) : zc ad (zI z) = .int (Int32.ofInt z) := rfl
theorem zc_R (ad : Nat → Nat) (r : Option Nat) : zc ad (zR r) = va_rf (r.map ad) := rfl
theorem zc_a (ad : Nat → Nat) (n : Nat) : zc ad (zR (some n)) = .ref (ad n) := rfl
theorem zc_N (ad : Nat → Nat) : zc ad (zR none) = .null := rfl
theorem zc_L (ad : Nat → Nat) (z : Int) : zc ad (zL z) = .long (Int64.ofInt z) := rfl
/-- the heap: kinds (0 none; 1 + class; 100 + row), lengths, int fields, int elements, reference fields, reference elements, long fields, long elements, double elements -/
abbrev zH : Type := (Nat → Nat) × (Nat → Int) × (Nat → Nat → Int) × (Nat → Int → Int) × (Nat → Nat → Option Nat) × (Nat → Int → Option Nat) × (Nat → Nat → Int) × (Nat → Int → Int) × (Nat → Int → UInt64)
def zK (h : zH) : Nat → Nat := h.1
def zN (h : zH) : Nat → Int := h.2.1
def zf (h : zH) : Nat → Nat → Int := h.2.2.1
def za (h : zH) : Nat → Int → Int := h.2.2.2.1
def zr (h : zH) : Nat → Nat → Option Nat := h.2.2.2.2.1
def zq (h : zH) : Nat → Int → Option Nat := h.2.2.2.2.2.1
def zl (h : zH) : Nat → Nat → Int := h.2.2.2.2.2.2.1
def zm (h : zH) : Nat → Int → Int := h.2.2.2.2.2.2.2.1
def zd (h : zH) : Nat → Int → UInt64 := h.2.2.2.2.2.2.2.2
def z2 {α : Type} (f : Nat → Nat → α) (i n : Nat) (v : α) : Nat → Nat → α := fun j m => if j = i ∧ m = n then v else f j m
def z3 {α : Type} (f : Nat → Int → α) (n : Nat) (i : Int) (v : α) : Nat → Int → α := fun m j => if m = n ∧ j = i then v else f m j
def sf (h : zH) (i n : Nat) (v : Int) : zH := (h.1, h.2.1, z2 h.2.2.1 i n v, h.2.2.2)
def sa (h : zH) (n : Nat) (i : Int) (v : Int) : zH := (h.1, h.2.1, h.2.2.1, z3 h.2.2.2.1 n i v, h.2.2.2.2)
def sr (h : zH) (i n : Nat) (v : Option Nat) : zH := (h.1, h.2.1, h.2.2.1, h.2.2.2.1, z2 h.2.2.2.2.1 i n v, h.2.2.2.2.2)
def sq (h : zH) (n : Nat) (i : Int) (v : Option Nat) : zH := (h.1, h.2.1, h.2.2.1, h.2.2.2.1, h.2.2.2.2.1, z3 h.2.2.2.2.2.1 n i v, h.2.2.2.2.2.2)
def sl (h : zH) (i n : Nat) (v : Int) : zH := (h.1, h.2.1, h.2.2.1, h.2.2.2.1, h.2.2.2.2.1, h.2.2.2.2.2.1, z2 h.2.2.2.2.2.2.1 i n v, h.2.2.2.2.2.2.2)
def sm (h : zH) (n : Nat) (i : Int) (v : Int) : zH := (h.1, h.2.1, h.2.2.1, h.2.2.2.1, h.2.2.2.2.1, h.2.2.2.2.2.1, h.2.2.2.2.2.2.1, z3 h.2.2.2.2.2.2.2.1 n i v, h.2.2.2.2.2.2.2.2)
def sd (h : zH) (n : Nat) (i : Int) (v : UInt64) : zH := (h.1, h.2.1, h.2.2.1, h.2.2.2.1, h.2.2.2.2.1, h.2.2.2.2.2.1, h.2.2.2.2.2.2.1, h.2.2.2.2.2.2.2.1, z3 h.2.2.2.2.2.2.2.2 n i v)
/-- a row's whole contents anew (copies) -/
def saw (h : zH) (n : Nat) (g : Int → Int) : zH := (h.1, h.2.1, h.2.2.1, (fun m j => if m = n then g j else h.2.2.2.1 m j), h.2.2.2.2)
def sqw (h : zH) (n : Nat) (g : Int → Option Nat) : zH := (h.1, h.2.1, h.2.2.1, h.2.2.2.1, h.2.2.2.2.1, (fun m j => if m = n then g j else h.2.2.2.2.2.1 m j), h.2.2.2.2.2.2)
/-- a new object or row under a name that was never used -/
def nw (h : zH) (n kd : Nat) (len : Int) : zH := ((fun m => if m = n then kd else h.1 m), (fun m => if m = n then len else h.2.1 m), (fun j m => if m = n then 0 else h.2.2.1 j m), (fun m j => if m = n then 0 else h.2.2.2.1 m j), (fun j m => if m = n then none else h.2.2.2.2.1 j m), (fun m j => if m = n then none else h.2.2.2.2.2.1 m j), (fun j m => if m = n then 0 else h.2.2.2.2.2.2.1 j m), (fun m j => if m = n then 0 else h.2.2.2.2.2.2.2.1 m j), (fun m j => if m = n then 0 else h.2.2.2.2.2.2.2.2 m j))
abbrev zCl : List vw_C := [(RJx4a65c, TJx4a65c, 3), (RX0, TX0, 11), (RX1, TX1, 7), (RX2, TX2, 3), (RX3, TX3, 4), (RX4, TX4, 7), (RX5, TX5, 9), (RX6, TX6, 4), (RX7, TX7, 10), (RX8, TX8, 4)]
/-- the types of the fields -/
def zTy (ci : Nat) : Nat → FieldType := match ci with
  | 0 => tyJx4a65c
  | 1 => tyX0
  | 2 => tyX1
  | 3 => tyX2
  | 4 => tyX3
  | 5 => tyX4
  | 6 => tyX5
  | 7 => tyX6
  | 8 => tyX7
  | _ => tyX8
def zFn (ci : Nat) : Nat := match ci with
  | 0 => 3
  | 1 => 11
  | 2 => 7
  | 3 => 3
  | 4 => 4
  | 5 => 7
  | 6 => 9
  | 7 => 4
  | 8 => 10
  | _ => 4
/-- which rows there are: the types of their elements -/
def zAt (t : Nat) : FieldType := match t with
  | 0 => .int
  | 1 => .boolean
  | 2 => .long
  | 3 => .double
  | 4 => .object "Remotepane$Client"
  | 5 => .object "Remotepane$Session"
  | 6 => .object "Remotepane$Window"
  | _ => .object "java/lang/Object"
def zIsR (ty : FieldType) : Bool := match ty with
  | .object _ => true
  | .array _ => true
  | _ => false
/-- what a field holds -/
def zFv (ad : Nat → Nat) (h : zH) (ty : FieldType) (i n : Nat) : Value := match ty with
  | .object _ => va_rf ((zr h i n).map ad)
  | .array _ => va_rf ((zr h i n).map ad)
  | .long => .long (Int64.ofInt (zl h i n))
  | _ => .int (Int32.ofInt (zf h i n))
def zOb (ad : Nat → Nat) (h : zH) (ci n : Nat) : List Value := (List.range (zFn ci)).map (fun k => zFv ad h (zTy ci k) (100 * ci + k) n)
def zRw (ad : Nat → Nat) (h : zH) (t n : Nat) : vp_A := match t with
  | 0 => ((zN h n).toNat, .inl (fun j => Int32.ofInt (za h n (j : Int))))
  | 1 => ((zN h n).toNat, .inl (fun j => Int32.ofInt (za h n (j : Int))))
  | 2 => ((zN h n).toNat, .inr (.inl (fun j => Int64.ofInt (zm h n (j : Int)))))
  | 3 => ((zN h n).toNat, .inr (.inr (.inr (.inl (fun j => zd h n (j : Int))))))
  | _ => ((zN h n).toNat, .inr (.inr (.inr (.inr (fun j => (zq h n (j : Int)).map ad)))))
def zEn (dA : Nat → ClassId) (ad : Nat → Nat) (h : zH) (n : Nat) : va_E := if zK h n < 100 then .inr (zK h n - 1, zOb ad h (zK h n - 1) n) else .inl (dA (zK h n - 100), zRw ad h (zK h n - 100) n)
/-- a value's name is in use -/
def zok (h : zH) (r : Option Nat) : Prop := ∀ n, r = some n → n = 0 ∨ zK h n ≠ 0
def zokv (h : zH) : zV → Prop
  | .inr (.inl r) => zok h r
  | _ => True
abbrev zin (z : Int) : Prop := -2147483648 ≤ z ∧ z < 2147483648
/-- the heap is closed and in range -/
def zG (h : zH) : Prop := (∀ i n, zin (zf h i n)) ∧ (∀ n j, zin (za h n j)) ∧ (∀ i n, zok h (zr h i n)) ∧ (∀ n j, zok h (zq h n j)) ∧ (∀ n, 0 ≤ zN h n ∧ zN h n < 2147483648) ∧ zK h 0 = 0 ∧ (∀ n, zK h n ≠ 0 → zK h n < 11 ∨ (100 ≤ zK h n ∧ zK h n < 108)) ∧ (∀ n j, zK h n = 101 → za h n j = 0 ∨ za h n j = 1)
def zW (dA : Nat → ClassId) (ad : Nat → Nat) (h : zH) (L : List Nat) : va_W := L.map (fun n => (ad n, zEn dA ad h n))
/-- the machine's heap H holds h -/
def zP (s : State) (D : va_G) (dA : Nat → ClassId) (A : Nat → Prop) (ad : Nat → Nat) (h : zH) (H : Heap) : Prop := zG h ∧ ∃ (L : List Nat) (tys : List (ClassId × FieldType)), va_K D zCl tys s ∧ (∀ n, n ∈ L ↔ zK h n ≠ 0) ∧ (∀ n ∈ L, 100 ≤ zK h n → (dA (zK h n - 100), zAt (zK h n - 100)) ∈ tys) ∧ va_P D zCl (zW dA ad h L) H ∧ va_D A (zW dA ad h L)
/-- a method: name, code, locals, type, room, handlers, the script that it holds -/
abbrev zM : Type := MethodName × ByteArray × Nat × Option FieldType × Room × List (Nat × Nat × Nat × Nat) × Option (Nat × (Nat → Int32))
abbrev zMy (Y : zM) : MethodName := Y.1
abbrev zMc (Y : zM) : ByteArray := Y.2.1
abbrev zMn (Y : zM) : Nat := Y.2.2.1
abbrev zMt (Y : zM) : Option FieldType := Y.2.2.2.1
abbrev zMr (Y : zM) : Room := Y.2.2.2.2.1
abbrev zMh (Y : zM) : List (Nat × Nat × Nat × Nat) := Y.2.2.2.2.2.1
abbrev zMs (Y : zM) : Option (Nat × (Nat → Int32)) := Y.2.2.2.2.2.2
def zT : List Cond := lw_tbl.filter goodWord
def zWs (Y : zM) : List Cond := Cond.code (zMy Y) (zMc Y) (zMn Y) (zMt Y) :: zT
def zWh (Y : zM) : List Cond := Cond.codeWith (zMy Y) (zMc Y) (zMn Y) (zMt Y) (zMh Y) :: zT
/-- how a method ends: an answer, or a throw by its class's name -/
abbrev zO : Type := (Option zV) ⊕ String
def zTK (U : State) (dA : Nat → ClassId) : Prop := ∀ t c, U.vm.findClass ("[" ++ (zAt t).toString) = some c → dA t = c
/-- the law's own text: its object a, its bytes at b; String's own static, and Preconditions' -/
def zFs (a b : Nat) (A : Nat → Prop) (U : State) (H : Heap) : Prop := va_O "java/lang/String" a A U H ∧ va_OF "java/lang/String" "coder" "B" (.int 0) a A U H ∧ va_OF "java/lang/String" "value" "[B" (.ref b) a A U H ∧ va_T .byte b 4 (fun j => .int (([99, 114, 115, 109] : List Int32).getD j 0)) A U H ∧ va_Z "java/lang/String" "COMPACT_STRINGS" "Z" (.int 1) A U H ∧ va_Zq "jdk/internal/util/Preconditions" "SIOOBE_FORMATTER" "Ljava/util/function/BiFunction;" A U H
def zCr (A : Nat → Prop) (U : State) (H : Heap) : Prop := ∃ a b : Nat, vk_R RL 165 "crsm" a U ∧ zFs a b A U H
/-- the statics that are read: Throwable's two, ArrayList's empty row at e0 -/
def zS (A : Nat → Prop) (e0 : Nat) (U : State) (H : Heap) : Prop := vx_Zq Bundle.tN "UNASSIGNED_STACK" Bundle.steD A U H ∧ vx_Zq Bundle.tN "SUPPRESSED_SENTINEL" Bundle.listD A U H ∧ va_Z RJx4a65c "DEFAULTCAPACITY_EMPTY_ELEMENTDATA" "[Ljava/lang/Object;" (.ref e0) A U H ∧ va_T (.object "java/lang/Object") e0 0 (fun _ => .null) A U H ∧ zCr A U H
def zXs : List String := ["java/lang/IllegalStateException", "java/lang/IllegalArgumentException", "java/lang/IndexOutOfBoundsException", "java/lang/UnsupportedOperationException", "java/util/NoSuchElementException"]
/-- the casts that are needed -/
def zCa : List (String × String) := [("Remotepane$Window", "java/lang/Object"), ("Remotepane$Key", "java/lang/Object"), ("java/lang/IllegalStateException", "java/lang/IllegalStateException"), ("java/lang/IllegalArgumentException", "java/lang/IllegalArgumentException"), ("java/lang/IndexOutOfBoundsException", "java/lang/IndexOutOfBoundsException"), ("java/lang/UnsupportedOperationException", "java/lang/UnsupportedOperationException"), ("java/util/NoSuchElementException", "java/util/NoSuchElementException")]
/-- the links to the host's private methods -/
def zNm : List (String × Nat × MethodName × String) := [(RX4, 40, yX8_isWithin, RX8), (RX7, 44, yX8_isScreenCell, RX8)]
def zOv : List String := ["Remotepane$Session", "Remotepane$Client", "Remotepane$Window", "java/lang/Object"]
def zDe : List MethodName := [Bundle.initS "java/lang/RuntimeException", Bundle.initS "java/lang/Exception", Bundle.initS Bundle.tN, ⟨"java/lang/Object", "getClass", "()Ljava/lang/Class;"⟩]
def zStr (ss : List (String × Nat × String)) (U : State) : Prop := (∀ q ∈ ss, ∃ a, vk_R q.1 q.2.1 q.2.2 a U) ∧ ((∀ E ∈ zXs, ∀ F ∈ zXs, E ≠ F → va_Nc E F U) ∧ ∃ mi : Nat, va_Mi "[Ljava/lang/Object;" mi U) ∧ (∀ q ∈ zCa, va_Nw (.castable q.1 q.2) U) ∧ (∀ x ∈ zDe, va_Nw (.declares x) U) ∧ (∀ q ∈ zNm, va_Nw (.methodLinkNest q.1 q.2.1 q.2.2.1 q.2.2.2) U) ∧ ∀ E ∈ zOv, va_AO E U
/-- what a method may write -/
def zA (ad : Nat → Nat) (h : zH) (sz : Nat) : Nat → Prop := fun q => (∃ n, zK h n ≠ 0 ∧ q = ad n) ∨ sz ≤ q
/-- a later heap and naming -/
def zE (h : zH) (ad : Nat → Nat) (h' : zH) (ad' : Nat → Nat) : Prop := (∀ n, (n ≤ 1 ∨ zK h n ≠ 0) → ad' n = ad n) ∧ ∀ n, zK h n ≠ 0 → zK h' n = zK h n
theorem zE_rf {h : zH} {ad : Nat → Nat} : zE h ad h ad := ⟨fun _ _ => rfl, fun _ _ => rfl⟩
theorem zE_tr {h h1 h2 : zH} {ad ad1 ad2 : Nat → Nat} (a : zE h ad h1 ad1) (b : zE h1 ad1 h2 ad2) : zE h ad h2 ad2 :=
  ⟨fun n hn => by
    rcases hn with hn | hn
    · exact (b.1 n (Or.inl hn)).trans (a.1 n (Or.inl hn))
    · exact (b.1 n (Or.inr (by rw [a.2 n hn]; exact hn))).trans (a.1 n (Or.inr hn)), fun n hn => (b.2 n (by rw [a.2 n hn]; exact hn)).trans (a.2 n hn)⟩
def zSs : List (String × Nat × String) := [(RX8, 32, "there are 4 sessions"), (RX8, 50, "a number is out of range"), (RX8, 57, "the session had 6 windows"), (RX8, 132, "the bid is out of range"), (RX8, 137, "there are 6 clients"), (RX8, 179, "the number is out of range"), (RX8, 184, "it is no letter from a to z"), (RX8, 192, "no window is shown"), (RX8, 201, "20 keys of the session wait"), (RX8, 247, "there is no such session"), (RX8, 250, "there is no such kind, or both are the same"), (RX8, 256, "both sessions are the same"), (RX8, 260, "the clipboard has no content"), (RX8, 267, "a session on the way may not pass it"), (RX8, 284, "the session is moving"), (RX8, 292, "the session is not moving"), (RX8, 309, "there is no recording of such a tick"), (RX8, 318, "there is no recording"), (RX8, 329, "there is no such cell"), (RX8, 331, "there is no such window"), (RX8, 337, "there is no such window that is open"), (RX8, 339, "there is no such client"), (RX8, 348, "the client is not behind")]
def zQc (D : va_G) (dA : Nat → ClassId) (ad : Nat → Nat) (h : zH) (Q : zO → zH → Prop) (A : Nat → Prop) : Array Value → State → Outcome → State → Prop := fun _ st oc t =>
  (∃ (v : Option zV) (h' : zH) (ad' : Nat → Nat), oc = .returned (v.map (zc ad')) ∧ Q (.inl v) h' ∧ zP t D dA A ad' h' t.heap ∧ zE h ad h' ad' ∧ ∀ w, v = some w → zokv h' w) ∧ va_F A st t
def zXc (D : va_G) (dA : Nat → ClassId) (ad : Nat → Nat) (h : zH) (Q : zO → zH → Prop) (A : Nat → Prop) : String → State → State → Prop := fun E st t =>
  (∃ (h' : zH) (ad' : Nat → Nat), Q (.inr E) h' ∧ zP t D dA A ad' h' t.heap ∧ zE h ad h' ad') ∧ va_F A st t
/-- a contract over the abstract world -/
def zB (D : va_G) (dA : Nat → ClassId) (ad : Nat → Nat) (sz : Nat) (As : List zV) (h : zH) (U : State) : Prop := U.heap.size = sz ∧ zP U D dA (zA ad h sz) ad h U.heap ∧ zTK U dA ∧ zS (zA ad h sz) (ad 0) U U.heap ∧ zStr zSs U ∧ ∀ v ∈ As, zokv h v
def zC (l : Launch) (Y : zM) (As : List zV) (h : zH) (Q : zO → zH → Prop) : Prop :=
  ∀ (D : va_G) (dA : Nat → ClassId) (ad : Nat → Nat) (sz : Nat), vx_Met l (zMy Y) (zWs Y) (zMr Y) (va_Pc (As.map (zc ad)) (zB D dA ad sz As h)) (zQc D dA ad h Q (zA ad h sz)) (zXc D dA ad h Q (zA ad h sz)) (zMr Y).cells (zMr Y).slots (zA ad h sz)
/-- the locals -/
def zLO (ad : Nat → Nat) (ls : List zV) (lm : Array Slot) (nL : Nat) : Prop := lm.size = nL ∧ lv_wf lm ∧ ∀ (i : Nat) (v : zV), ls[i]? = some v → v ≠ zX → lm[i]? = some (Slot.val (zc ad v))
/-- the script, where the method holds one -/
def zScr (Y : zM) (s : State) (A : Nat → Prop) (e1 : Nat) : Prop := match zMs Y with
  | none => True
  | some q => va_X e1 q.1 q.2 s s.heap ∧ e1 < s.heap.size ∧ ¬ A e1 ∧ q.1 < 2147483648
/-- what is known all along a method's body -/
def zCX (l : Launch) (Y : zM) (p : Program) (s : State) (m : MethodId) (args : Array Value) (meth : Method) (c : Code) (dA : Nat → ClassId) (A : Nat → Prop) (e0 e1 : Nat) : Prop :=
  p.tables.exec = Jvm.exec ∧ c.code = zMc Y ∧ meth.sig.returnType = zMt Y ∧ c.maxLocals = zMn Y ∧ s.vm.findClass (zMy Y).cls = some m.cls ∧ (∀ w ∈ zT, w.before args s = true) ∧ meth.locks = false ∧ meth.name = (zMy Y).name ∧ c.exceptionTable.toList = tableOf (zMh Y) ∧ zTK s dA ∧ zS A e0 s s.heap ∧ zStr zSs s ∧ (∀ q : Nat, s.heap.size ≤ q → A q) ∧ l.stackTraces = false ∧ zScr Y s A e1
/-- from here the method ends as Q says -/
def AW (l : Launch) (Y : zM) (Q : zO → zH → Prop) (k n pc : Nat) (ls st : List zV) (h : zH) : Prop :=
  ∀ (p : Program) (e : Env) (s : State) (m : MethodId) (args : Array Value) (below : List Frame) (meth : Method) (c : Code) (D : va_G) (dA : Nat → ClassId) (ad0 : Nat → Nat) (h0 : zH) (A : Nat → Prop),
    zCX l Y p s m args meth c dA A (ad0 0) (ad0 1) → ∀ (H : Heap) (locs : List Loc) (ad : Nat → Nat) (lm : Array Slot), zP s D dA A ad h H → zE h0 ad0 h ad → va_S A s.heap H locs → zLO ad ls lm (zMn Y) → (∀ v ∈ ls, zokv h v) → (∀ v ∈ st, zokv h v) →
      W p l e (zMr Y) s m args below meth c H locs k n (vx_MQ below (zQc D dA ad0 h0 Q A) (zXc D dA ad0 h0 Q A) args s (zMr Y).cells (zMr Y).slots A) (F0 m pc lm (st.map (zc ad)))
