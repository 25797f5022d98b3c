/-! THE LAW: rows of its own -/
abbrev MLW (L : Nat) (f : Nat → Int32) : zM := (yL_law, cL_law, 9, (some .boolean), room_1, [], some (L, f))
theorem e_aloadY {l : Launch} {Y : zM} {Q : zO → zH → Prop} {k n pc : Nat} {ls st : List zV} {h : zH} {i : Fin 4} {j : Nat} (d : decode (zMc Y) pc = .ok (.aload_n i, 1)) (hi : (i : Nat) = j) (hl : ls[j]? = some zY) (K : AW l Y Q k n (pc + 1) ls (zY :: st) h) : AW l Y Q k n pc ls st h := by
  intro p e s m args below meth c D dA ad0 h0 A C H locs ad lm hP hE hS hL o1 o2
  exact lv_aload_n C.1 C.2.1 d hi (zLO_at hL hl (by intro z; cases z)) (K p e s m args below meth c D dA ad0 h0 A C H locs ad lm hP hE hS hL o1 (zo_cons trivial o2))
theorem e_sld {l : Launch} {Y : zM} {Q : zO → zH → Prop} {k n pc : Nat} {ls st : List zV} {h : zH} {L : Nat} {f : Nat → Int32} {i : Int} (hs : zMs Y = some (L, f)) (d : decode (zMc Y) pc = .ok (.iaload, 1)) (hi0 : 0 ≤ i) (hi1 : i < L) (K : zin (f i.toNat).toInt → AW l Y Q k n (pc + 1) ls (zI (f i.toNat).toInt :: st) h) : AW l Y Q k n pc ls (zI i :: zY :: st) h := by
  intro p e s m args below meth c D dA ad0 h0 A C H locs ad lm hP hE hS hL o1 o2
  have K := K ⟨Int32.le_toInt _, Int32.toInt_lt _⟩ p e s m args below meth c D dA ad0 h0 A C H locs ad lm hP hE hS hL o1 (zo_cons trivial (zo_tl (zo_tl o2)))
  have hsc := C.2.2.2.2.2.2.2.2.2.2.2.2.2.2
  unfold zScr at hsc
  rw [hs] at hsc
  obtain ⟨hX, hbl, hbA, hL2⟩ := hsc
  have hL3 : L < 2147483648 := hL2
  have hi : zin i := ⟨by omega, by omega⟩
  have e1 : ad 1 = ad0 1 := hE.1 1 (Or.inl (Nat.le_refl 1))
  show W p l e (zMr Y) s m args below meth c H locs k n _ (F0 m pc lm (.int (Int32.ofInt i) :: .ref (ad 1) :: st.map (zc ad)))
  rw [e1]
  have hin : vp_in (Int32.ofInt i) L := by
    unfold vp_in
    rw [zcl hi0 hi]
    intro z
    rcases z with z | z
    · have := (zin_lt hi zin_0).mp z
      omega
    · omega
  refine va_sld C.1 C.2.1 hX hbl hbA hS hin d ?_
  rw [zcl hi0 hi]
  have K : W p l e (zMr Y) s m args below meth c H locs k n (vx_MQ below (zQc D dA ad0 h0 Q A) (zXc D dA ad0 h0 Q A) args s (zMr Y).cells (zMr Y).slots A) (F0 m (pc + 1) lm (.int (Int32.ofInt (f i.toNat).toInt) :: st.map (zc ad))) := K
  rw [Int32.ofInt_toInt] at K
  exact K
theorem e_slen {l : Launch} {Y : zM} {Q : zO → zH → Prop} {k n pc : Nat} {ls st : List zV} {h : zH} {L : Nat} {f : Nat → Int32} (hs : zMs Y = some (L, f)) (d : decode (zMc Y) pc = .ok (.arraylength, 1)) (K : AW l Y Q k n (pc + 1) ls (zI (L : Int) :: st) h) : AW l Y Q k n pc ls (zY :: st) h := by
  intro p e s m args below meth c D dA ad0 h0 A C H locs ad lm hP hE hS hL o1 o2
  have K := K p e s m args below meth c D dA ad0 h0 A C H locs ad lm hP hE hS hL o1 (zo_cons trivial (zo_tl o2))
  have hsc := C.2.2.2.2.2.2.2.2.2.2.2.2.2.2
  unfold zScr at hsc
  rw [hs] at hsc
  obtain ⟨hX, hbl, hbA, hL2⟩ := hsc
  have e1 : ad 1 = ad0 1 := hE.1 1 (Or.inl (Nat.le_refl 1))
  show W p l e (zMr Y) s m args below meth c H locs k n _ (F0 m pc lm (.ref (ad 1) :: st.map (zc ad)))
  rw [e1]
  refine va_slen C.1 C.2.1 hX hbl hbA hS d ?_
  exact K
theorem e_tin {l : Launch} {Y : zM} {Q : zO → zH → Prop} {k n pc : Nat} {ls st : List zV} {h : zH} {z dflt lo hi off : Int} {offs : Array Int} {len tgt : Nat} (d : decode (zMc Y) pc = .ok (.tableswitch dflt lo hi offs, len)) (hz : zin z) (h1 : lo ≤ z) (h2 : z ≤ hi) (ho : offs[(z - lo).toNat]? = some off) (ht : (pc : Int) + off = (tgt : Int)) (K : AW l Y Q k n tgt ls st h) : AW l Y Q k n pc ls (zI z :: st) h := by
  intro p e s m args below meth c D dA ad0 h0 A C H locs ad lm hP hE hS hL o1 o2
  have e1 : (Int32.ofInt z).toInt = z := Int32.toInt_ofInt_of_le (by have := hz.1; omega) (by have := hz.2; omega)
  exact lv_tableIn C.1 C.2.1 d (by rw [e1]; omega) (by rw [e1]; omega) (by rw [e1]; exact ho) ht (K p e s m args below meth c D dA ad0 h0 A C H locs ad lm hP hE hS hL o1 (zo_tl o2))
theorem e_tout {l : Launch} {Y : zM} {Q : zO → zH → Prop} {k n pc : Nat} {ls st : List zV} {h : zH} {z dflt lo hi : Int} {offs : Array Int} {len tgt : Nat} (d : decode (zMc Y) pc = .ok (.tableswitch dflt lo hi offs, len)) (hz : zin z) (h1 : z < lo ∨ hi < z) (ht : (pc : Int) + dflt = (tgt : Int)) (K : AW l Y Q k n tgt ls st h) : AW l Y Q k n pc ls (zI z :: st) h := by
  intro p e s m args below meth c D dA ad0 h0 A C H locs ad lm hP hE hS hL o1 o2
  have e1 : (Int32.ofInt z).toInt = z := Int32.toInt_ofInt_of_le (by have := hz.1; omega) (by have := hz.2; omega)
  exact lv_tableOut C.1 C.2.1 d (by rw [e1]; exact h1) ht (K p e s m args below meth c D dA ad0 h0 A C H locs ad lm hP hE hS hL o1 (zo_tl o2))
theorem and63 (x : Int32) : 0 ≤ (x &&& 63).toInt ∧ (x &&& 63).toInt ≤ 63 := by
  have h1 : (x &&& 63).toBitVec.toNat ≤ 63 := by
    rw [Int32.toBitVec_and, BitVec.toNat_and]
    exact Nat.and_le_right
  have h2 : (x &&& 63).toInt = ((x &&& 63).toBitVec.toNat : Int) := by
    show (x &&& 63).toBitVec.toInt = _
    rw [BitVec.toInt_eq_toNat_of_lt (by omega)]
  omega
/-- a truth out of a number, at the join -/
theorem e_b5 {l : Launch} {Y : zM} {Q : zO → zH → Prop} {k n pc t0 j : Nat} {o1 o2 : Int} {ls st : List zV} {h : zH} {z : Int} (d0 : decode (zMc Y) pc = .ok (.ifCond .eq o1, 3)) (ht : (pc : Int) + o1 = (t0 : Int)) (d1 : decode (zMc Y) (pc + 3) = .ok (.iconst 1, 1)) (d2 : decode (zMc Y) (pc + 3 + 1) = .ok (.goto o2, 3)) (ht2 : ((pc + 3 + 1 : Nat) : Int) + o2 = (j : Int)) (d3 : decode (zMc Y) t0 = .ok (.iconst 0, 1)) (hj : t0 + 1 = j) (hz : zin z) (K : AW l Y Q k n j ls (zI (if z = 0 then 0 else 1) :: st) h) : AW l Y Q k n pc ls (zI z :: st) h := by
  refine e_if_eq (tgt := t0) d0 ht hz (fun c => ?_) (fun c => ?_)
  · rw [if_pos c] at K
    refine e_iconst d3 ?_
    rw [hj]
    exact K
  · rw [if_neg c] at K
    refine e_iconst d1 ?_
    exact e_goto d2 ht2 K
theorem e_bl5 {l : Launch} {Y : zM} {Q : zO → zH → Prop} {k n pc t0 j : Nat} {o1 o2 : Int} {ls st : List zV} {h : zH} {z : Int} (d0 : decode (zMc Y) pc = .ok (.ifCond .eq o1, 3)) (ht : (pc : Int) + o1 = (t0 : Int)) (d1 : decode (zMc Y) (pc + 3) = .ok (.lconst 1, 1)) (d2 : decode (zMc Y) (pc + 3 + 1) = .ok (.goto o2, 3)) (ht2 : ((pc + 3 + 1 : Nat) : Int) + o2 = (j : Int)) (d3 : decode (zMc Y) t0 = .ok (.lconst 0, 1)) (hj : t0 + 1 = j) (hz : zin z) (K : AW l Y Q k n j ls (zL (if z = 0 then 0 else 1) :: st) h) : AW l Y Q k n pc ls (zI z :: st) h := by
  refine e_if_eq (tgt := t0) d0 ht hz (fun c => ?_) (fun c => ?_)
  · rw [if_pos c] at K
    refine e_lconst (z := 0) d3 (by decide) ?_
    rw [hj]
    exact K
  · rw [if_neg c] at K
    refine e_lconst (z := 1) d1 (by decide) ?_
    exact e_goto d2 ht2 K
theorem b5_01 {z : Int} : (if z = 0 then (0 : Int) else 1) = 0 ∨ (if z = 0 then (0 : Int) else 1) = 1 := by
  split
  · exact Or.inl rfl
  · exact Or.inr rfl
theorem kz {P : Prop} [Decidable P] {a b : Int} (h : (if P then a else b) = 0) (ha : a ≠ 0) : ¬ P ∧ b = 0 := by
  split at h
  · exact absurd h ha
  · exact ⟨by assumption, h⟩
theorem RM_fr {S : S9} {h h' : zH} (hf : ∀ m, 99 ≤ m → m ≤ 142 → eqAt m h h') (a : RM S h) : RM S h' := by
  obtain ⟨a1, a2, a3, a4⟩ := a
  obtain ⟨b1, -, b3, -, b5, -, b7, -⟩ := hf 99 (by decide) (by decide)
  refine ⟨b1.trans a1, fun f hm => (b3 _).trans (a2 f hm), (b7 _).trans a3, fun f f4 f42 => ?_⟩
  obtain ⟨c1, c2, -, c4, -⟩ := hf (100 + f) (by omega) (by omega)
  have y := a4 f f4 f42
  exact ⟨(b5 _).trans y.1, c1.trans y.2.1, c2.trans y.2.2.1, fun hf j => (c4 j).trans (y.2.2.2 hf j)⟩
theorem RC_99 {S : S9} {h h' : zH} (hf : ∀ m, (m < 99 ∨ 142 < m) → eqAt m h h') (a : RC S h) : RC S h' := by
  obtain ⟨a1, a2, a3, a4, a5, a6⟩ := a
  refine ⟨RTop_at (fun m m1 m2 => hf m (by omega)) a1, fun t ht => RSes_at (fun m hm => ?_) (fun m m1 m2 => hf m (by omega)) (a2 t ht), fun c hc => RCli_at (fun k hk => hf _ (by unfold nC; omega)) (a3 c hc), fun t j t1 t4 t0 hj => (hf _ (by unfold nS; omega)).1.trans (a4 t j t1 t4 t0 hj), fun t w t0 t1 w0 w1 => ?_, fun c k c1 c6 c0 hk => (hf _ (by unfold nC; omega)).1.trans (a6 c k c1 c6 c0 hk)⟩
  · unfold nmS nS nW at hm
    rcases hm with ⟨j, j1, j2⟩ | ⟨w, w1, w2, w3⟩
    · exact hf m (by omega)
    · exact hf m (by omega)
  · have y := a5 t w t0 t1 w0 w1
    exact ⟨(hf _ (by unfold nW; omega)).1.trans y.1, (hf _ (by unfold nW; omega)).1.trans y.2⟩
/-- what holds at the law's loop -/
def LI (S : S9) (B : Int) (h : zH) : Prop := RM S h ∧ RC S h ∧ I4 S B ∧ (zK h 6 = 102 ∧ zN h 6 = 1) ∧ (zK h 7 = 103 ∧ zN h 7 = 1) ∧ 0 ≤ B
theorem II_of {S : S9} {B : Int} {h : zH} (G : zG h) (a : RM S h) (i : I4 S B) : II S B := ⟨i.1, i.2.1, i.2.2.1, i.2.2.2, IBt_of a G⟩
theorem QL_inl {S S' : S9} {h h' : zH} {k w : Int} {E : String} (q : QL S h k w S' (.inr E) h') : False := by cases q.1
theorem QD_inl {S S' : S9} {h h' : zH} {k : Int} {w : UInt64} {E : String} (q : QD S h k w S' (.inr E) h') : False := by cases q.1
theorem e_fstore {l : Launch} {Y : zM} {Q : zO → zH → Prop} {k n pc : Nat} {ls st : List zV} {h : zH} {j : Nat} {x : UInt32} {ls2 : List zV} (d : decode (zMc Y) pc = .ok (.fstore j, 2)) (hn : j < zMn Y) (hw : zlow ls j = true) (hs : ls.set j (zF x) = ls2) (K : AW l Y Q k n (pc + 2) ls2 st h) : AW l Y Q k n pc ls (zF x :: st) h := by
  intro p e s m args below meth c D dA ad0 h0 A C H locs ad lm hP hE hS hL o1 o2
  subst hs
  exact lv_fstore C.1 C.2.1 d (zLO_has hL) hn rfl (fun lm2 h2 => K p e s m args below meth c D dA ad0 h0 A C H locs ad lm2 hP hE hS (zLO_set hw rfl h2) (zo_set trivial o1) (zo_tl o2))
theorem e_fload {l : Launch} {Y : zM} {Q : zO → zH → Prop} {k n pc : Nat} {ls st : List zV} {h : zH} {j : Nat} {x : UInt32} (d : decode (zMc Y) pc = .ok (.fload j, 2)) (hl : ls[j]? = some (zF x)) (K : AW l Y Q k n (pc + 2) ls (zF x :: st) h) : AW l Y Q k n pc ls st h := by
  intro p e s m args below meth c D dA ad0 h0 A C H locs ad lm hP hE hS hL o1 o2
  exact lv_fload C.1 C.2.1 d (zLO_at hL hl (by intro z; cases z)) (K p e s m args below meth c D dA ad0 h0 A C H locs ad lm hP hE hS hL o1 (zo_cons trivial o2))
theorem e_dload {l : Launch} {Y : zM} {Q : zO → zH → Prop} {k n pc : Nat} {ls st : List zV} {h : zH} {j : Nat} {x : UInt64} (d : decode (zMc Y) pc = .ok (.dload j, 2)) (hl : ls[j]? = some (zD x)) (K : AW l Y Q k n (pc + 2) ls (zD x :: st) h) : AW l Y Q k n pc ls st h := by
  intro p e s m args below meth c D dA ad0 h0 A C H locs ad lm hP hE hS hL o1 o2
  exact lv_dload C.1 C.2.1 d (zLO_at hL hl (by intro z; cases z)) (K p e s m args below meth c D dA ad0 h0 A C H locs ad lm hP hE hS hL o1 (zo_cons trivial o2))
theorem zLO_set2 {ad : Nat → Nat} {ls : List zV} {lm : Array Slot} {nL i : Nat} {v : zV} {w : Value} (hlow : zlow ls i = true) (hv : zc ad v = w) (h : lv_has lm nL ((i, w) :: (zls ad ls).filter (fun q => !(q.1 == i) && (!(q.1 == i + 1) && !(q.1 + 1 == i && q.2.category == 2))))) : zLO ad ((ls.set i v).set (i + 1) zX) lm nL := by
  refine ⟨h.1, h.2.1, fun j u hj hu => ?_⟩
  rw [List.getElem?_set] at hj
  by_cases e0 : i + 1 = j
  · rw [if_pos e0] at hj
    split at hj
    · cases hj
      exact absurd rfl hu
    · cases hj
  rw [if_neg e0, List.getElem?_set] at hj
  by_cases e : i = j
  · subst e
    rw [if_pos rfl] at hj
    split at hj
    · cases hj
      rw [hv]
      exact h.2.2 (i, w) List.mem_cons_self
    · cases hj
  · rw [if_neg e] at hj
    refine h.2.2 (j, zc ad u) (List.mem_cons_of_mem _ (List.mem_filter.mpr ⟨zls_mem hj hu, ?_⟩))
    have e1 : (j == i) = false := by simp; omega
    have e3 : (j == i + 1) = false := by simp; omega
    have e2 : (j + 1 == i && (zc ad u).category == 2) = false := by
      by_cases e3 : j + 1 = i
      · subst e3
        have h1 : z1 u = true := by
          have := hlow
          simp only [zlow, hj] at this
          exact this
        rw [z1_cat h1]
        simp
      · simp [e3]
    simp only [e1, e2, e3, Bool.not_false, Bool.and_self]
theorem e_dstore {l : Launch} {Y : zM} {Q : zO → zH → Prop} {k n pc : Nat} {ls st : List zV} {h : zH} {j : Nat} {x : UInt64} {ls2 : List zV} (d : decode (zMc Y) pc = .ok (.dstore j, 2)) (hn : j + 1 < zMn Y) (hw : zlow ls j = true) (hs : (ls.set j (zD x)).set (j + 1) zX = ls2) (K : AW l Y Q k n (pc + 2) ls2 st h) : AW l Y Q k n pc ls (zD x :: st) h := by
  intro p e s m args below meth c D dA ad0 h0 A C H locs ad lm hP hE hS hL o1 o2
  subst hs
  exact lv_dstore C.1 C.2.1 d (zLO_has hL) hn rfl (fun lm2 h2 => K p e s m args below meth c D dA ad0 h0 A C H locs ad lm2 hP hE hS (zLO_set2 hw rfl h2) (zo_set trivial (zo_set trivial o1)) (zo_tl o2))
