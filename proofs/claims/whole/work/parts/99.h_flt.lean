/-! rows of floats -/
theorem e_fconst0 {l : Launch} {Y : zM} {Q : zO → zH → Prop} {k n pc : Nat} {ls st : List zV} {h : zH} (d : decode (zMc Y) pc = .ok (.fconst 0, 1)) (K : AW l Y Q k n (pc + 1) ls (zF FP.fconst0 :: st) h) : AW l Y Q k n pc ls (st) h := by
  intro p e s m args below meth c D dA ad0 h0 A C H locs ad lm hP hE hS hL o1 o2
  exact lv_fconst0 C.1 C.2.1 d (K p e s m args below meth c D dA ad0 h0 A C H locs ad lm hP hE hS hL o1 (zo_cons trivial o2))
theorem e_dconst0 {l : Launch} {Y : zM} {Q : zO → zH → Prop} {k n pc : Nat} {ls st : List zV} {h : zH} (d : decode (zMc Y) pc = .ok (.dconst 0, 1)) (K : AW l Y Q k n (pc + 1) ls (zD FP.dconst0 :: st) h) : AW l Y Q k n pc ls (st) h := by
  intro p e s m args below meth c D dA ad0 h0 A C H locs ad lm hP hE hS hL o1 o2
  exact lv_dconst0 C.1 C.2.1 d (K p e s m args below meth c D dA ad0 h0 A C H locs ad lm hP hE hS hL o1 (zo_cons trivial o2))
theorem e_i2f {l : Launch} {Y : zM} {Q : zO → zH → Prop} {k n pc : Nat} {ls st : List zV} {h : zH} {z : Int} (d : decode (zMc Y) pc = .ok (.i2f, 1)) (K : AW l Y Q k n (pc + 1) ls (zF (FP.i2f (Int32.ofInt z)) :: st) h) : AW l Y Q k n pc ls (zI z :: st) h := by
  intro p e s m args below meth c D dA ad0 h0 A C H locs ad lm hP hE hS hL o1 o2
  exact lv_i2f C.1 C.2.1 d (K p e s m args below meth c D dA ad0 h0 A C H locs ad lm hP hE hS hL o1 (zo_cons trivial (zo_tl o2)))
theorem e_i2d {l : Launch} {Y : zM} {Q : zO → zH → Prop} {k n pc : Nat} {ls st : List zV} {h : zH} {z : Int} (d : decode (zMc Y) pc = .ok (.i2d, 1)) (K : AW l Y Q k n (pc + 1) ls (zD (FP.i2d (Int32.ofInt z)) :: st) h) : AW l Y Q k n pc ls (zI z :: st) h := by
  intro p e s m args below meth c D dA ad0 h0 A C H locs ad lm hP hE hS hL o1 o2
  exact lv_i2d C.1 C.2.1 d (K p e s m args below meth c D dA ad0 h0 A C H locs ad lm hP hE hS hL o1 (zo_cons trivial (zo_tl o2)))
theorem e_fdiv {l : Launch} {Y : zM} {Q : zO → zH → Prop} {k n pc : Nat} {ls st : List zV} {h : zH} {x y : UInt32} (d : decode (zMc Y) pc = .ok (.fdiv, 1)) (hne : vf_n32 (FP.fdiv x y)) (K : AW l Y Q k n (pc + 1) ls (zF (FP.fdiv x y) :: st) h) : AW l Y Q k n pc ls (zF y :: zF x :: st) h := by
  intro p e s m args below meth c D dA ad0 h0 A C H locs ad lm hP hE hS hL o1 o2
  exact lv_fdiv C.1 C.2.1 d hne (K p e s m args below meth c D dA ad0 h0 A C H locs ad lm hP hE hS hL o1 (zo_cons trivial (zo_tl (zo_tl o2))))
theorem e_ddiv {l : Launch} {Y : zM} {Q : zO → zH → Prop} {k n pc : Nat} {ls st : List zV} {h : zH} {x y : UInt64} (d : decode (zMc Y) pc = .ok (.ddiv, 1)) (hne : vf_n64 (FP.ddiv x y)) (K : AW l Y Q k n (pc + 1) ls (zD (FP.ddiv x y) :: st) h) : AW l Y Q k n pc ls (zD y :: zD x :: st) h := by
  intro p e s m args below meth c D dA ad0 h0 A C H locs ad lm hP hE hS hL o1 o2
  exact lv_ddiv C.1 C.2.1 d hne (K p e s m args below meth c D dA ad0 h0 A C H locs ad lm hP hE hS hL o1 (zo_cons trivial (zo_tl (zo_tl o2))))
theorem e_f2d {l : Launch} {Y : zM} {Q : zO → zH → Prop} {k n pc : Nat} {ls st : List zV} {h : zH} {x : UInt32} (d : decode (zMc Y) pc = .ok (.f2d, 1)) (hne : vf_n64 (FP.f2d x)) (K : AW l Y Q k n (pc + 1) ls (zD (FP.f2d x) :: st) h) : AW l Y Q k n pc ls (zF x :: st) h := by
  intro p e s m args below meth c D dA ad0 h0 A C H locs ad lm hP hE hS hL o1 o2
  exact lv_f2d C.1 C.2.1 d hne (K p e s m args below meth c D dA ad0 h0 A C H locs ad lm hP hE hS hL o1 (zo_cons trivial (zo_tl o2)))
theorem e_dcmp {l : Launch} {Y : zM} {Q : zO → zH → Prop} {k n pc : Nat} {ls st : List zV} {h : zH} {x y : UInt64} {op : CmpOp} {z : Int} (d : decode (zMc Y) pc = .ok (.dcmp op, 1)) (hz : Op.cmpValue (FP.dcmp x y) op = Int32.ofInt z) (K : AW l Y Q k n (pc + 1) ls (zI z :: st) h) : AW l Y Q k n pc ls (zD y :: zD x :: st) h := by
  intro p e s m args below meth c D dA ad0 h0 A C H locs ad lm hP hE hS hL o1 o2
  exact lv_dcmp C.1 C.2.1 d (by rw [hz]; exact (K p e s m args below meth c D dA ad0 h0 A C H locs ad lm hP hE hS hL o1 (zo_cons trivial (zo_tl (zo_tl o2)))))
theorem e_fcmp {l : Launch} {Y : zM} {Q : zO → zH → Prop} {k n pc : Nat} {ls st : List zV} {h : zH} {x y : UInt32} {op : CmpOp} {z : Int} (d : decode (zMc Y) pc = .ok (.fcmp op, 1)) (hz : Op.cmpValue (FP.fcmp x y) op = Int32.ofInt z) (K : AW l Y Q k n (pc + 1) ls (zI z :: st) h) : AW l Y Q k n pc ls (zF y :: zF x :: st) h := by
  intro p e s m args below meth c D dA ad0 h0 A C H locs ad lm hP hE hS hL o1 o2
  exact lv_fcmp C.1 C.2.1 d (by rw [hz]; exact (K p e s m args below meth c D dA ad0 h0 A C H locs ad lm hP hE hS hL o1 (zo_cons trivial (zo_tl (zo_tl o2)))))
theorem e_fret {l : Launch} {Y : zM} {Q : zO → zH → Prop} {k n pc : Nat} {ls : List zV} {h : zH} {z : UInt32} (d : decode (zMc Y) pc = .ok (.freturn, 1)) (ht : zMt Y = some .float) (hk : k ≤ (zMr Y).cells) (hn : n ≤ (zMr Y).slots) (hq : Q (.inl (some (zF z))) h) : AW l Y Q k n pc ls [zF z] h := by
  intro p e s m args below meth c D dA ad0 h0 A C H locs ad lm hP hE hS hL o1 o2
  refine vx_ret (W.widen hk hn ?_)
  exact W.fret C.1 C.2.1 (C.2.2.1.trans ht) (fun t h1 h2 => ⟨⟨some (zF z), h, ad, rfl, hq, by rw [h1]; exact zP_moved hP h2.alike, hE, fun w hw => by cases hw; trivial⟩, hS.F h1⟩) hS.2.2 d C.2.2.2.2.2.2.1
theorem e_dret {l : Launch} {Y : zM} {Q : zO → zH → Prop} {k n pc : Nat} {ls : List zV} {h : zH} {z : UInt64} (d : decode (zMc Y) pc = .ok (.dreturn, 1)) (ht : zMt Y = some .double) (hk : k ≤ (zMr Y).cells) (hn : n ≤ (zMr Y).slots) (hq : Q (.inl (some (zD z))) h) : AW l Y Q k n pc ls [zD z] h := by
  intro p e s m args below meth c D dA ad0 h0 A C H locs ad lm hP hE hS hL o1 o2
  refine vx_ret (W.widen hk hn ?_)
  exact W.dret C.1 C.2.1 (C.2.2.1.trans ht) (fun t h1 h2 => ⟨⟨some (zD z), h, ad, rfl, hq, by rw [h1]; exact zP_moved hP h2.alike, hE, fun w hw => by cases hw; trivial⟩, hS.F h1⟩) hS.2.2 d C.2.2.2.2.2.2.1
/-- what a sum of few is -/
theorem sg_in96 {f : Int → Int} (hf : ∀ p, 0 ≤ f p ∧ f p ≤ 96) (n : Nat) : 0 ≤ sg f n ∧ sg f n ≤ 96 * n := by
  induction n with
  | zero => exact ⟨Int.le_refl _, Int.le_refl _⟩
  | succ m ih =>
    have h1 := hf m
    show 0 ≤ sg f m + f m ∧ sg f m + f m ≤ _
    omega
theorem cntB_in (S : S9) (c : Int) : 0 ≤ cntB S c ∧ cntB S c ≤ 96 := by
  have := sg_in1 (f := fun p => b2 (S 40 (96 * c + p) ≠ screenAt S (S 35 c) p)) (fun _ _ => b2_le) 96 (by decide)
  unfold cntB
  exact this
def sumB (S : S9) (n : Int) : Int := sg (fun c => cntB S c) n.toNat
theorem sumB_in (S : S9) {n : Int} (h0 : 0 ≤ n) (h1 : n ≤ 6) : 0 ≤ sumB S n ∧ sumB S n ≤ 576 := by
  have := sg_in96 (f := fun c => cntB S c) (fun p => cntB_in S p) n.toNat
  unfold sumB
  omega
theorem sumB_s (S : S9) {i : Int} (h0 : 0 ≤ i) : sumB S (i + 1) = sumB S i + cntB S i := by
  unfold sumB
  rw [sg_s h0]
