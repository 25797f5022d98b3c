/-- two rows of bits that a tick writes -/
def B2 (S : S9) : Prop := (∀ r, S 29 r = 0 ∨ S 29 r = 1) ∧ ∀ s, S 26 s = 0 ∨ S 26 s = 1
theorem B2_rows {S : S9} {s : Int} (a : B2 S) : B2 (rowsS S s) := by
  refine ⟨fun r => ?_, fun t => ?_⟩
  · unfold rowsS
    split
    · rw [up_f (by decide), up_f (by decide), up_f (by decide)]
      exact a.1 r
    · split
      · unfold cpyI
        rw [if_neg (by omega), up_at]
        split
        · exact Or.inr rfl
        · rw [up_f (by decide)]
          exact a.1 r
      · rw [up_f (by decide)]
        exact a.1 r
  · unfold rowsS
    split
    · rw [up_f (by decide), up_at]
      split
      · exact Or.inl rfl
      · rw [up_f (by decide)]
        exact a.2 t
    · split
      · unfold cpyI
        rw [if_neg (by omega), up_f (by decide), up_f (by decide)]
        exact a.2 t
      · rw [up_f (by decide)]
        exact a.2 t
theorem B2_rowsN {S : S9} (a : B2 S) : ∀ n : Nat, B2 (rowsN S n)
  | 0 => a
  | n + 1 => B2_rows (B2_rowsN a n)
theorem rowsN_s (S : S9) (n : Nat) : rowsN S (n + 1) = rowsS (rowsN S n) n := rfl
theorem sesN_s (S : S9) (n : Nat) : sesN S (n + 1) = sesS (sesN S n) n := rfl
theorem rowsN_IJ {S : S9} (a : IJ S) : ∀ n : Nat, IJ (rowsN S n)
  | 0 => a
  | n + 1 => rowsS_IJ (rowsN_IJ a n)
/-- the sessions' flags of a move that was done -/
def hld (S : S9) (h : zH) (a b : Int) : Prop := ∀ t, a ≤ t → t < b → zf h 608 (nS t) = S 27 t
/-- a session's move goes on -/
theorem RC_row {S : S9} {h h' : zH} {s : Int} (hI : IJ S) (hs : isS S s) (s4 : s < 4) (hT : RT (rowsS S s) h' s) (ho : RSo (rowsS S s) h' s) (hf : ∀ m, m ≠ nS s → m ≠ nS s + 6 → m ≠ nS s + 7 → m ≠ nS s + 8 → eqAt m h h') (a : RC S h) : RC (rowsS S s) h' := by
  refine RC_sesJ hI (rowsS_JJ hI.1) hs rowsS_e (RSes_mov (rowsS_JJ hI.1) (fun f hf j => rowsS_f (by omega)) hf ho hT (a.2.1 s hs)) (fun m hm _ => hf m ((nmS_no hm).1 0 (by decide)) ((nmS_no hm).1 6 (by decide)) ((nmS_no hm).1 7 (by decide)) ((nmS_no hm).1 8 (by decide))) (fun w w0 w1 => ?_) a
  rw [rowsS_f (by decide)] at w0
  have hb := hI.1.1.2.2.2.2 s hs.1 s4
  have s0 := hs.1
  have z := RC_freeW a hs.1 s4 w w0 w1
  exact ⟨(hf _ (by unfold nS nW; omega) (by unfold nS nW; omega) (by unfold nS nW; omega) (by unfold nS nW; omega)).1.trans z.1, (hf _ (by unfold nS nW; omega) (by unfold nS nW; omega) (by unfold nS nW; omega) (by unfold nS nW; omega)).1.trans z.2⟩
/-- a session is looked at -/
theorem RC_look {S : S9} {h h' : zH} {s : Int} (hI : IJ S) (hs : isS S s) (s4 : s < 4) (h1 : S 31 s = 1 → RR (recS S s) h' s) (h2 : S 31 s ≠ 1 → h' = h) (hf : ∀ m, (∀ j, 9 ≤ j → j ≤ 13 → m ≠ nS s + j) → eqAt m h h') (a : RC S h) : RC (recS S s) h' := by
  have e31 : recS S s 31 s = S 31 s := recS_f (by decide)
  have hS := a.2.1 s hs
  refine RC_sesJ hI (recS_JJ hI.1) hs (recS_e (hI.2 s hs.1 s4)) (RSes_rec (recS_JJ hI.1) (fun f hf j => recS_f (by omega)) (fun m m0 m1 => hf m (fun j j0 j1 => m1 j j0 (by omega))) ?_ (fun z => h1 (e31.symm.trans z)) (fun z j j0 j1 => ?_) hS) (fun m hm _ => hf m (fun j j0 j1 => (nmS_no hm).1 j (by omega))) (fun w w0 w1 => ?_) a
  · exact RSo_ag (recS_f (by decide)) e31 (RSo_at (hf _ (fun j j0 j1 => by omega)) hS.1.2.2.2.2.1)
  · have z1 : S 31 s ≠ 1 := fun y => z (e31.trans y)
    rw [h2 z1]
    exact hS.2.2.2.2.2.2.2 z1 j j0 j1
  · rw [recS_f (by decide)] at w0
    have hb := hI.1.1.2.2.2.2 s hs.1 s4
    have s0 := hs.1
    have z := RC_freeW a hs.1 s4 w w0 w1
    exact ⟨(hf _ (fun j _ _ => by unfold nS nW; omega)).1.trans z.1, (hf _ (fun j _ _ => by unfold nS nW; omega)).1.trans z.2⟩
theorem IJ_IB {S : S9} {B : Int} (a : JJ S) (b : IB S B) : IJ S := ⟨a, fun s s0 s4 => by have := b.2.1 s s0 s4; omega⟩
/-- what a tick reads and never writes -/
def tF (f : Nat) : Prop := f ≤ 2 ∨ (4 ≤ f ∧ f ≤ 8) ∨ (10 ≤ f ∧ f ≤ 13) ∨ f = 15 ∨ f = 16 ∨ (18 ≤ f ∧ f ≤ 25) ∨ f = 31 ∨ f = 35 ∨ f = 36
theorem ln_f {S : S9} {n : Nat} {f : Nat} {j : Int} (h : tF f) : sesN (lineS (befS S) 24 24).1 n f j = S f j := by
  unfold tF at h
  rw [sesN_f (by omega), lineS_f (by omega), befS_f (by omega)]
/-- .. and of the moves' flags -/
theorem ln_27 {S : S9} {n : Nat} {j : Int} : sesN (lineS (befS S) 24 24).1 n 27 j = rowsN S (S 1 0).toNat 27 j := by
  rw [sesN_f (by decide), lineS_f (by decide)]
  unfold befS
  rw [monI_f (by decide)]
theorem lo_ed {S : S9} {h : zH} {s : Int} {ed : Nat} {cp : Int} {kn : Int → Nat} (a : RKx S h s ed cp kn) : ed = 0 ∨ ed = nS s + 16 ∨ ed = nS s + 17 ∨ ed = nS s + 18 := by
  rcases a.2.1 with z | z | z | z
  · exact Or.inl z.1
  · exact Or.inr (Or.inl z.1)
  · exact Or.inr (Or.inr (Or.inl z.1))
  · exact Or.inr (Or.inr (Or.inr z.1))
theorem RC_Sx {S : S9} {h : zH} {s : Int} (a : RC S h) (hs : isS S s) : ∃ ed cp kn, Sx S h s ed cp kn := by
  obtain ⟨hV, ⟨ed, cp, kn, hK⟩, hC, -⟩ := a.2.1 s hs
  exact ⟨ed, cp, kn, hV, hK, hC, fun c c0 c1 => (a.2.2.1 c ⟨c0, c1⟩).1⟩
theorem rowsN_27 {S : S9} (a : ∀ t, S 27 t = 0 ∨ S 27 t = 1) : ∀ (n : Nat) (t : Int), rowsN S n 27 t = 0 ∨ rowsN S n 27 t = 1
  | 0, t => a t
  | n + 1, t => by
    rw [rowsN_s]
    by_cases z : t = n
    · rw [z, rowsS_h27]
      exact b2_01
    · rw [rowsS_e 27 t (by unfold inS; omega)]
      exact rowsN_27 a n t
theorem IBt_tik1 {S : S9} (a : IBt S) : IBt (tik1 S) := by
  have hb := B2_rowsN (S := S) ⟨a 29 (by decide), a 26 (by decide)⟩ (S 1 0).toNat
  have e : ∀ f, (f = 26 ∨ f = 27 ∨ f = 29) → ∀ j, tik1 S f j = rowsN S (S 1 0).toNat f j := fun f hf j => by
    unfold tik1 befS
    rw [sesN_f (by omega), lineS_f (by omega), monI_f (by omega)]
  intro f hf j
  by_cases z : f = 26 ∨ f = 27 ∨ f = 29
  · rw [e f z j]
    rcases z with z | z | z
    · rw [z]; exact hb.2 j
    · rw [z]; exact rowsN_27 (a 27 (by decide)) _ j
    · rw [z]; exact hb.1 j
  · rw [tik1_f (by omega)]
    exact a f hf j
theorem IBt_tikN {S : S9} (a : IBt S) : ∀ n : Nat, IBt (tikN S n)
  | 0 => a
  | n + 1 => IBt_tik1 (IBt_tikN a n)
/-- the line's units counted -/
theorem RC_units {S : S9} {h : zH} {x : Int} (hI : IJ S) (a : RC S h) : RC (up S 3 0 x) (sl h 903 2 x) := by
  obtain ⟨⟨⟨a1, a12, a13, a14, a15⟩, a01, a02, v1, v2, v3⟩, a2, a3, a4, a5, a6⟩ := a
  have hN := hI.1.1
  have n1 := hN.2.1
  have n2 := hN.2.2.2.1
  have e : ∀ f, f ≠ 3 → ∀ j, up S 3 0 x f j = S f j := fun f hf j => up_f hf
  have fr : ∀ m, m ≠ 2 → eqAt m h (sl h 903 2 x) := fun m hm => eqAt_sl hm
  have hJ : JJ (up S 3 0 x) := JJ_ag (fun f hf => e f (by unfold jF at hf; omega)) hI.1
  refine ⟨⟨⟨a1, a12, a13, a14, ?_⟩, ?_, ?_, v1, v2, ?_⟩, fun s hs => ?_, fun c hc => ?_, ?_, ?_, ?_⟩
  · rw [up_eq]; exact (show z2 (zl h) 903 2 x 903 2 = x from z2_eq)
  · rw [e 1 (by decide)]; exact a01
  · rw [e 2 (by decide)]; exact a02
  · simp only [e 25 (by decide)]; exact v3
  · rw [isS, e 1 (by decide)] at hs
    have hb := hI.2 s hs.1 (by omega)
    refine RSes_agS hJ.1 hJ.2.1 hJ.2.2.1 hb.1 hb.2 (fun f j hj => e f (by unfold inS at hj; omega) j) (RSes_at (fun m hm => fr m (by unfold nmS nS nW at hm; rcases hm with ⟨j, j1, j2⟩ | ⟨w, w1, w2, w3⟩ <;> omega)) (fun m m1 _ => fr m (by omega)) (a2 s hs))
  · rw [isC, e 2 (by decide)] at hc
    exact RCli_ag ⟨fun f h5 h9 => e f (by omega) c, fun j _ _ => e 40 (by decide) _⟩ (RCli_at (fun k hk => fr _ (by unfold nC; omega)) (a3 c hc))
  · rw [e 1 (by decide)]; exact a4
  · simp only [e 4 (by decide)]; exact a5
  · rw [e 2 (by decide)]; exact a6
