/-! the state in rows of numbers: S f j is place j of the check's row f (its scalars: S f 0) -/
abbrev S9 : Type := Nat → Int → Int
def up (S : S9) (f : Nat) (i v : Int) : S9 := fun g j => if g = f ∧ j = i then v else S g j
theorem up_eq {S : S9} {f : Nat} {i v : Int} : up S f i v f i = v := if_pos ⟨rfl, rfl⟩
theorem up_f {S : S9} {f g : Nat} {i v j : Int} (h : g ≠ f) : up S f i v g j = S g j := if_neg (fun z => h z.1)
theorem up_i {S : S9} {f g : Nat} {i v j : Int} (h : j ≠ i) : up S f i v g j = S g j := if_neg (fun z => h z.2)
theorem up_at {S : S9} {f : Nat} {i v j : Int} : up S f i v f j = if j = i then v else S f j := by
  unfold up
  by_cases h : j = i
  · rw [if_pos ⟨rfl, h⟩, if_pos h]
  · rw [if_neg (fun z => h z.2), if_neg h]
/-- the two heaps are one at a name -/
def eqAt (n : Nat) (h h' : zH) : Prop := zK h' n = zK h n ∧ zN h' n = zN h n ∧ (∀ i, zf h' i n = zf h i n) ∧ (∀ j, za h' n j = za h n j) ∧ (∀ i, zr h' i n = zr h i n) ∧ (∀ j, zq h' n j = zq h n j) ∧ (∀ i, zl h' i n = zl h i n) ∧ (∀ j, zm h' n j = zm h n j) ∧ (∀ j, zd h' n j = zd h n j)
theorem eqAt_rf {n : Nat} {h : zH} : eqAt n h h := ⟨rfl, rfl, fun _ => rfl, fun _ => rfl, fun _ => rfl, fun _ => rfl, fun _ => rfl, fun _ => rfl, fun _ => rfl⟩
theorem eqAt_tr {n : Nat} {h h1 h2 : zH} (a : eqAt n h h1) (b : eqAt n h1 h2) : eqAt n h h2 := by
  obtain ⟨a1, a2, a3, a4, a5, a6, a7, a8, a9⟩ := a
  obtain ⟨b1, b2, b3, b4, b5, b6, b7, b8, b9⟩ := b
  exact ⟨b1.trans a1, b2.trans a2, fun i => (b3 i).trans (a3 i), fun i => (b4 i).trans (a4 i), fun i => (b5 i).trans (a5 i), fun i => (b6 i).trans (a6 i), fun i => (b7 i).trans (a7 i), fun i => (b8 i).trans (a8 i), fun i => (b9 i).trans (a9 i)⟩
theorem eqAt_sf {n a i : Nat} {v : Int} {h : zH} (hn : n ≠ a) : eqAt n h (sf h i a v) := ⟨rfl, rfl, fun _ => z2_nn hn, fun _ => rfl, fun _ => rfl, fun _ => rfl, fun _ => rfl, fun _ => rfl, fun _ => rfl⟩
theorem eqAt_sa {n a : Nat} {i v : Int} {h : zH} (hn : n ≠ a) : eqAt n h (sa h a i v) := ⟨rfl, rfl, fun _ => rfl, fun _ => z3_nn hn, fun _ => rfl, fun _ => rfl, fun _ => rfl, fun _ => rfl, fun _ => rfl⟩
theorem eqAt_sr {n a i : Nat} {v : Option Nat} {h : zH} (hn : n ≠ a) : eqAt n h (sr h i a v) := ⟨rfl, rfl, fun _ => rfl, fun _ => rfl, fun _ => z2_nn hn, fun _ => rfl, fun _ => rfl, fun _ => rfl, fun _ => rfl⟩
theorem eqAt_sq {n a : Nat} {i : Int} {v : Option Nat} {h : zH} (hn : n ≠ a) : eqAt n h (sq h a i v) := ⟨rfl, rfl, fun _ => rfl, fun _ => rfl, fun _ => rfl, fun _ => z3_nn hn, fun _ => rfl, fun _ => rfl, fun _ => rfl⟩
theorem eqAt_sl {n a i : Nat} {v : Int} {h : zH} (hn : n ≠ a) : eqAt n h (sl h i a v) := ⟨rfl, rfl, fun _ => rfl, fun _ => rfl, fun _ => rfl, fun _ => rfl, fun _ => z2_nn hn, fun _ => rfl, fun _ => rfl⟩
theorem eqAt_sm {n a : Nat} {i v : Int} {h : zH} (hn : n ≠ a) : eqAt n h (sm h a i v) := ⟨rfl, rfl, fun _ => rfl, fun _ => rfl, fun _ => rfl, fun _ => rfl, fun _ => rfl, fun _ => z3_nn hn, fun _ => rfl⟩
theorem eqAt_sd {n a : Nat} {i : Int} {v : UInt64} {h : zH} (hn : n ≠ a) : eqAt n h (sd h a i v) := ⟨rfl, rfl, fun _ => rfl, fun _ => rfl, fun _ => rfl, fun _ => rfl, fun _ => rfl, fun _ => rfl, fun _ => z3_nn hn⟩
theorem eqAt_nw {n a kd : Nat} {len : Int} {h : zH} (hn : n ≠ a) : eqAt n h (nw h a kd len) := ⟨if_neg hn, if_neg hn, fun _ => if_neg hn, fun _ => if_neg hn, fun _ => if_neg hn, fun _ => if_neg hn, fun _ => if_neg hn, fun _ => if_neg hn, fun _ => if_neg hn⟩
theorem eqAt_saw {n a : Nat} {g : Int → Int} {h : zH} (hn : n ≠ a) : eqAt n h (saw h a g) := ⟨rfl, rfl, fun _ => rfl, fun _ => if_neg hn, fun _ => rfl, fun _ => rfl, fun _ => rfl, fun _ => rfl, fun _ => rfl⟩
theorem eqAt_sqw {n a : Nat} {g : Int → Option Nat} {h : zH} (hn : n ≠ a) : eqAt n h (sqw h a g) := ⟨rfl, rfl, fun _ => rfl, fun _ => rfl, fun _ => rfl, fun _ => if_neg hn, fun _ => rfl, fun _ => rfl, fun _ => rfl⟩
/-- the check's rows: kinds and lengths -/
def mK (f : Nat) : Nat := if f = 10 ∨ f = 11 ∨ f = 12 ∨ f = 13 ∨ f = 24 ∨ f = 25 ∨ f = 26 ∨ f = 27 ∨ f = 29 ∨ f = 31 then 101 else 100
def mL (f : Nat) : Int := match f with
  | 4 => 4
  | 5 => 24
  | 6 => 24
  | 7 => 24
  | 8 => 24
  | 9 => 24
  | 10 => 24
  | 11 => 24
  | 12 => 24
  | 13 => 24
  | 14 => 2304
  | 15 => 24
  | 16 => 4
  | 17 => 4
  | 18 => 80
  | 19 => 80
  | 20 => 80
  | 21 => 80
  | 22 => 4
  | 23 => 4
  | 24 => 16
  | 25 => 48
  | 26 => 4
  | 27 => 4
  | 28 => 4
  | 29 => 32
  | 30 => 384
  | 31 => 4
  | 32 => 4
  | 33 => 4
  | 34 => 23040
  | 35 => 6
  | 36 => 6
  | 37 => 6
  | 38 => 6
  | 39 => 6
  | 40 => 576
  | 41 => 96
  | _ => 96
def mS (f : Nat) : Prop := f = 1 ∨ f = 2
/-- the scalars that are scratch -/
def mX (f : Nat) : Prop := f = 0 ∨ (43 ≤ f ∧ f ≤ 49)
/-- the heap holds the check, with S -/
def RM (S : S9) (h : zH) : Prop := zK h 99 = 11 ∧ (∀ f, mS f → zf h (1000 + f) 99 = S f 0) ∧ zl h 1003 99 = S 3 0 ∧ ∀ f, 4 ≤ f → f ≤ 42 → zr h (1000 + f) 99 = some (100 + f) ∧ zK h (100 + f) = mK f ∧ zN h (100 + f) = mL f ∧ (f ≤ 40 → ∀ j, za h (100 + f) j = S f j)
/-- .. and all else is as in h0 -/
def MM (S : S9) (h0 h : zH) : Prop := RM S h ∧ ∀ n, (n < 99 ∨ 142 < n) → eqAt n h0 h
theorem MM_rf {S : S9} {h : zH} (a : RM S h) : MM S h h := ⟨a, fun _ _ => eqAt_rf⟩
theorem MM_tr {S S' : S9} {h0 h h' : zH} (a : MM S h0 h) (b : MM S' h h') : MM S' h0 h' := ⟨b.1, fun n hn => eqAt_tr (a.2 n hn) (b.2 n hn)⟩
theorem MM_sa {S : S9} {h0 h : zH} {f : Nat} {i v : Int} (a : MM S h0 h) (h1 : 4 ≤ f) (h2 : f ≤ 40) : MM (up S f i v) h0 (sa h (100 + f) i v) := by
  obtain ⟨⟨a1, a2, a3, a4⟩, a5⟩ := a
  refine ⟨⟨a1, fun g hg => ?_, ?_, fun g h3 h4 => ?_⟩, fun n hn => eqAt_tr (a5 n hn) (eqAt_sa (by omega))⟩
  · rw [up_f (by rintro rfl; rcases hg with z | z <;> omega)]
    exact a2 g hg
  · rw [up_f (by omega)]
    exact a3
  · obtain ⟨b1, b2, b3, b4⟩ := a4 g h3 h4
    refine ⟨b1, b2, b3, fun h5 j => ?_⟩
    show z3 (za h) (100 + f) i v (100 + g) j = up S f i v g j
    unfold z3 up
    by_cases e : g = f ∧ j = i
    · rw [if_pos e, if_pos ⟨by omega, e.2⟩]
    · rw [if_neg e, if_neg (fun z => e ⟨by omega, z.2⟩)]
      exact b4 h5 j
theorem MM_sax {S : S9} {h0 h : zH} {f : Nat} {i v : Int} (a : MM S h0 h) (h1 : 41 ≤ f) (h2 : f ≤ 42) : MM S h0 (sa h (100 + f) i v) := by
  obtain ⟨⟨a1, a2, a3, a4⟩, a5⟩ := a
  refine ⟨⟨a1, a2, a3, fun g h3 h4 => ?_⟩, fun n hn => eqAt_tr (a5 n hn) (eqAt_sa (by omega))⟩
  obtain ⟨b1, b2, b3, b4⟩ := a4 g h3 h4
  refine ⟨b1, b2, b3, fun h5 j => ?_⟩
  show z3 (za h) (100 + f) i v (100 + g) j = S g j
  rw [z3_nn (by omega)]
  exact b4 h5 j
theorem MM_sf {S : S9} {h0 h : zH} {f : Nat} {v : Int} (a : MM S h0 h) (h1 : mS f) : MM (up S f 0 v) h0 (sf h (1000 + f) 99 v) := by
  obtain ⟨⟨a1, a2, a3, a4⟩, a5⟩ := a
  refine ⟨⟨a1, fun g hg => ?_, ?_, fun g h3 h4 => ?_⟩, fun n hn => eqAt_tr (a5 n hn) (eqAt_sf (by omega))⟩
  · show z2 (zf h) (1000 + f) 99 v (1000 + g) 99 = up S f 0 v g 0
    unfold z2 up
    by_cases e : g = f
    · rw [if_pos ⟨by omega, rfl⟩, if_pos ⟨e, rfl⟩]
    · rw [if_neg (fun z => e (by omega)), if_neg (fun z => e z.1)]
      exact a2 g hg
  · rw [up_f (by rintro rfl; rcases h1 with z | z <;> omega)]
    exact a3
  · obtain ⟨b1, b2, b3, b4⟩ := a4 g h3 h4
    refine ⟨b1, b2, b3, fun h5 j => ?_⟩
    rw [up_f (by rintro rfl; rcases h1 with z | z <;> omega)]
    exact b4 h5 j
theorem MM_sfx {S : S9} {h0 h : zH} {f : Nat} {v : Int} (a : MM S h0 h) (h1 : mX f) : MM S h0 (sf h (1000 + f) 99 v) := by
  obtain ⟨⟨a1, a2, a3, a4⟩, a5⟩ := a
  refine ⟨⟨a1, fun g hg => ?_, a3, a4⟩, fun n hn => eqAt_tr (a5 n hn) (eqAt_sf (by omega))⟩
  show z2 (zf h) (1000 + f) 99 v (1000 + g) 99 = S g 0
  rw [z2_ni (by rcases hg with z | z <;> rcases h1 with y | y <;> omega)]
  exact a2 g hg
theorem MM_sl {S : S9} {h0 h : zH} {v : Int} (a : MM S h0 h) : MM (up S 3 0 v) h0 (sl h 1003 99 v) := by
  obtain ⟨⟨a1, a2, a3, a4⟩, a5⟩ := a
  refine ⟨⟨a1, fun g hg => ?_, ?_, fun g h3 h4 => ?_⟩, fun n hn => eqAt_tr (a5 n hn) (eqAt_sl (by omega))⟩
  · rw [up_f (by rintro rfl; rcases hg with z | z <;> omega)]
    exact a2 g hg
  · rw [up_eq]
    show z2 (zl h) 1003 99 v 1003 99 = v
    exact z2_eq
  · obtain ⟨b1, b2, b3, b4⟩ := a4 g h3 h4
    refine ⟨b1, b2, b3, fun h5 j => ?_⟩
    rw [up_f (by omega)]
    exact b4 h5 j
theorem MM_eq {S S' : S9} {h0 h : zH} (a : MM S h0 h) (e : ∀ f, 1 ≤ f → f ≤ 40 → ∀ j, S' f j = S f j) : MM S' h0 h := by
  obtain ⟨⟨a1, a2, a3, a4⟩, a5⟩ := a
  refine ⟨⟨a1, fun g hg => ?_, ?_, fun g h3 h4 => ?_⟩, a5⟩
  · rw [e g (by rcases hg with z | z <;> omega) (by rcases hg with z | z <;> omega)]
    exact a2 g hg
  · rw [e 3 (by omega) (by omega)]
    exact a3
  · obtain ⟨b1, b2, b3, b4⟩ := a4 g h3 h4
    exact ⟨b1, b2, b3, fun h5 j => by rw [e g (by omega) h5]; exact b4 h5 j⟩
section MROWS
variable {l : Launch} {Y : zM} {Q : zO → zH → Prop} {k n pc : Nat} {ls st : List zV} {h h0 : zH} {S : S9}
theorem m_arr {idx : Nat} (f : Nat) (d : decode (zMc Y) pc = .ok (.getfield idx, 3)) (F : zFL (zMy Y).cls idx 10 f (1000 + f)) (ht : zIs (zTy 10 f) = 1) (hM : MM S h0 h) (hf : 4 ≤ f ∧ f ≤ 42) (K : AW l Y Q k n (pc + 3) ls (zR (some (100 + f)) :: st) h) : AW l Y Q k n pc ls (zR (some 99) :: st) h :=
  e_getR d F ht hM.1.1 (hM.1.2.2.2 f hf.1 hf.2).1 K
theorem m_get {idx : Nat} {v : Int} (f : Nat) (d : decode (zMc Y) pc = .ok (.getfield idx, 3)) (F : zFL (zMy Y).cls idx 10 f (1000 + f)) (ht : zIs (zTy 10 f) = 0) (hM : MM S h0 h) (hf : mS f) (hv : S f 0 = v) (K : zin v → AW l Y Q k n (pc + 3) ls (zI v :: st) h) : AW l Y Q k n pc ls (zR (some 99) :: st) h :=
  e_getI d F ht hM.1.1 ((hM.1.2.1 f hf).trans hv) K
theorem m_getL {idx : Nat} (d : decode (zMc Y) pc = .ok (.getfield idx, 3)) (F : zFL (zMy Y).cls idx 10 3 1003) (hM : MM S h0 h) (K : AW l Y Q k n (pc + 3) ls (zL (S 3 0) :: st) h) : AW l Y Q k n pc ls (zR (some 99) :: st) h :=
  e_getL d F rfl hM.1.1 hM.1.2.2.1 K
theorem m_put {idx : Nat} {v : Int} (f : Nat) (d : decode (zMc Y) pc = .ok (.putfield idx, 3)) (F : zFL (zMy Y).cls idx 10 f (1000 + f)) (hm : zMay Y 10 f) (hfi : zfit (zTy 10 f) v) (hM : MM S h0 h) (hf : mS f) (hv : zin v) (K : MM (up S f 0 v) h0 (sf h (1000 + f) 99 v) → AW l Y Q k n (pc + 3) ls st (sf h (1000 + f) 99 v)) : AW l Y Q k n pc ls (zI v :: zR (some 99) :: st) h :=
  e_putI d F hm hfi hM.1.1 hv (K (MM_sf hM hf))
theorem m_putL {idx : Nat} {v : Int} (d : decode (zMc Y) pc = .ok (.putfield idx, 3)) (F : zFL (zMy Y).cls idx 10 3 1003) (hm : zMay Y 10 3) (hM : MM S h0 h) (K : MM (up S 3 0 v) h0 (sl h 1003 99 v) → AW l Y Q k n (pc + 3) ls st (sl h 1003 99 v)) : AW l Y Q k n pc ls (zL v :: zR (some 99) :: st) h :=
  e_putL d F hm rfl hM.1.1 (K (MM_sl hM))
theorem m_getX {idx : Nat} {v : Int} (f : Nat) (d : decode (zMc Y) pc = .ok (.getfield idx, 3)) (F : zFL (zMy Y).cls idx 10 f (1000 + f)) (ht : zIs (zTy 10 f) = 0) (hM : MM S h0 h) (hv : zf h (1000 + f) 99 = v) (K : zin v → AW l Y Q k n (pc + 3) ls (zI v :: st) h) : AW l Y Q k n pc ls (zR (some 99) :: st) h :=
  e_getI d F ht hM.1.1 hv K
theorem m_putX {idx : Nat} {v : Int} (f : Nat) (d : decode (zMc Y) pc = .ok (.putfield idx, 3)) (F : zFL (zMy Y).cls idx 10 f (1000 + f)) (hm : zMay Y 10 f) (hfi : zfit (zTy 10 f) v) (hM : MM S h0 h) (hf : mX f) (hv : zin v) (K : MM S h0 (sf h (1000 + f) 99 v) → AW l Y Q k n (pc + 3) ls st (sf h (1000 + f) 99 v)) : AW l Y Q k n pc ls (zI v :: zR (some 99) :: st) h :=
  e_putI d F hm hfi hM.1.1 hv (K (MM_sfx hM hf))
theorem m_ldX {f : Nat} {i v : Int} (d : decode (zMc Y) pc = .ok (.iaload, 1)) (hM : MM S h0 h) (hf : 41 ≤ f ∧ f ≤ 42) (i0 : 0 ≤ i) (i1 : i < 96) (hv : za h (100 + f) i = v) (K : zin v → AW l Y Q k n (pc + 1) ls (zI v :: st) h) : AW l Y Q k n pc ls (zI i :: zR (some (100 + f)) :: st) h := by
  obtain ⟨b1, b2, b3, b4⟩ := hM.1.2.2.2 f (by omega) hf.2
  refine e_iald d (b2.trans ?_) i0 (by rw [b3]; have e : mL f = 96 := (by rcases (show f = 41 ∨ f = 42 by omega) with z | z <;> subst z <;> rfl); rw [e]; exact i1) hv K
  rcases (show f = 41 ∨ f = 42 by omega) with z | z <;> subst z <;> rfl
theorem m_stX {f : Nat} {i v : Int} (d : decode (zMc Y) pc = .ok (.iastore, 1)) (hM : MM S h0 h) (hf : 41 ≤ f ∧ f ≤ 42) (i0 : 0 ≤ i) (i1 : i < 96) (hv : zin v) (K : MM S h0 (sa h (100 + f) i v) → AW l Y Q k n (pc + 1) ls st (sa h (100 + f) i v)) : AW l Y Q k n pc ls (zI v :: zI i :: zR (some (100 + f)) :: st) h := by
  obtain ⟨b1, b2, b3, b4⟩ := hM.1.2.2.2 f (by omega) hf.2
  refine e_iast d (b2.trans ?_) i0 (by rw [b3]; have e : mL f = 96 := (by rcases (show f = 41 ∨ f = 42 by omega) with z | z <;> subst z <;> rfl); rw [e]; exact i1) hv (K (MM_sax hM hf.1 hf.2))
  rcases (show f = 41 ∨ f = 42 by omega) with z | z <;> subst z <;> rfl
theorem m_ld {f : Nat} {i v : Int} (d : decode (zMc Y) pc = .ok (.iaload, 1)) (hM : MM S h0 h) (hf : 4 ≤ f ∧ f ≤ 40) (hk : mK f = 100) (i0 : 0 ≤ i) (i1 : i < mL f) (hv : S f i = v) (K : zin v → AW l Y Q k n (pc + 1) ls (zI v :: st) h) : AW l Y Q k n pc ls (zI i :: zR (some (100 + f)) :: st) h := by
  obtain ⟨b1, b2, b3, b4⟩ := hM.1.2.2.2 f hf.1 (by omega)
  have b4 := b4 hf.2
  exact e_iald d (b2.trans hk) i0 (by rw [b3]; exact i1) ((b4 i).trans hv) K
theorem m_ldz {f : Nat} {i v : Int} (d : decode (zMc Y) pc = .ok (.baload, 1)) (hM : MM S h0 h) (hf : 4 ≤ f ∧ f ≤ 40) (hk : mK f = 101) (i0 : 0 ≤ i) (i1 : i < mL f) (hv : S f i = v) (K : (v = 0 ∨ v = 1) → AW l Y Q k n (pc + 1) ls (zI v :: st) h) : AW l Y Q k n pc ls (zI i :: zR (some (100 + f)) :: st) h := by
  obtain ⟨b1, b2, b3, b4⟩ := hM.1.2.2.2 f hf.1 (by omega)
  have b4 := b4 hf.2
  exact e_zald d (b2.trans hk) i0 (by rw [b3]; exact i1) ((b4 i).trans hv) K
theorem m_st {f : Nat} {i v : Int} (d : decode (zMc Y) pc = .ok (.iastore, 1)) (hM : MM S h0 h) (hf : 4 ≤ f ∧ f ≤ 40) (hk : mK f = 100) (i0 : 0 ≤ i) (i1 : i < mL f) (hv : zin v) (K : MM (up S f i v) h0 (sa h (100 + f) i v) → AW l Y Q k n (pc + 1) ls st (sa h (100 + f) i v)) : AW l Y Q k n pc ls (zI v :: zI i :: zR (some (100 + f)) :: st) h := by
  obtain ⟨b1, b2, b3, b4⟩ := hM.1.2.2.2 f hf.1 (by omega)
  have b4 := b4 hf.2
  exact e_iast d (b2.trans hk) i0 (by rw [b3]; exact i1) hv (K (MM_sa hM hf.1 hf.2))
theorem m_stz {f : Nat} {i v : Int} (d : decode (zMc Y) pc = .ok (.bastore, 1)) (hM : MM S h0 h) (hf : 4 ≤ f ∧ f ≤ 40) (hk : mK f = 101) (i0 : 0 ≤ i) (i1 : i < mL f) (hv : v = 0 ∨ v = 1) (K : MM (up S f i v) h0 (sa h (100 + f) i v) → AW l Y Q k n (pc + 1) ls st (sa h (100 + f) i v)) : AW l Y Q k n pc ls (zI v :: zI i :: zR (some (100 + f)) :: st) h := by
  obtain ⟨b1, b2, b3, b4⟩ := hM.1.2.2.2 f hf.1 (by omega)
  have b4 := b4 hf.2
  exact e_zast d (b2.trans hk) i0 (by rw [b3]; exact i1) hv (K (MM_sa hM hf.1 hf.2))
end MROWS
def b2 (p : Prop) [Decidable p] : Int := if p then 1 else 0
theorem b2_t {p : Prop} [Decidable p] (h : p) : b2 p = 1 := if_pos h
theorem b2_f {p : Prop} [Decidable p] (h : ¬ p) : b2 p = 0 := if_neg h
theorem b2_0 {p : Prop} [Decidable p] : b2 p = 0 ↔ ¬ p := by
  by_cases h : p
  · rw [b2_t h]; exact ⟨fun z => absurd z (by decide), fun z => absurd h z⟩
  · rw [b2_f h]; exact ⟨fun _ => h, fun _ => rfl⟩
theorem b2_n0 {p : Prop} [Decidable p] : ¬ b2 p = 0 ↔ p := by rw [b2_0]; exact Decidable.not_not
theorem b2_01 {p : Prop} [Decidable p] : b2 p = 0 ∨ b2 p = 1 := by
  by_cases h : p
  · exact Or.inr (b2_t h)
  · exact Or.inl (b2_f h)
theorem b2_in {p : Prop} [Decidable p] : zin (b2 p) := by
  rcases b2_01 (p := p) with h | h <;> rw [h] <;> exact ⟨by decide, by decide⟩
