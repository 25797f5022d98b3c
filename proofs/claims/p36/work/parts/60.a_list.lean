/-! ArrayList: rows and pictures -/
theorem e_gets0 {l : Launch} {Y : zM} {Q : zO → zH → Prop} {k n pc : Nat} {ls st : List zV} {h : zH} {idx : Nat} (d : decode (zMc Y) pc = .ok (.getstatic idx, 3)) (w : Cond.fieldLink (zMy Y).cls idx RJx4a65c "DEFAULTCAPACITY_EMPTY_ELEMENTDATA" "[Ljava/lang/Object;" ∈ zT) (K : AW l Y Q k n (pc + 3) ls (zR (some 0) :: st) h) : AW l Y Q k n pc ls st h := by
  intro p e s m args below meth c D dA ad0 h0 A C H locs ad lm hP hE hS hL o1 o2
  have hT := C.2.2.2.2.2.1
  have hs := C.2.2.2.2.2.2.2.2.2.2.1
  have K := K p e s m args below meth c D dA ad0 h0 A C H locs ad lm hP hE hS hL o1 (zo_cons (fun y hy => by cases hy; exact Or.inl rfl) o2)
  rw [List.map_cons, zc_a, hE.1 0 (Or.inl (Nat.zero_le 1))] at K
  exact va_gets C.1 C.2.1 hs.2.2.1 hS C.2.2.2.2.1 (hT _ w) (fun _ hx => hx) d K
theorem e_alen0 {l : Launch} {Y : zM} {Q : zO → zH → Prop} {k n pc : Nat} {ls st : List zV} {h : zH} (d : decode (zMc Y) pc = .ok (.arraylength, 1)) (K : AW l Y Q k n (pc + 1) ls (zI 0 :: st) h) : AW l Y Q k n pc ls (zR (some 0) :: st) h := by
  intro p e s m args below meth c D dA ad0 h0 A C H locs ad lm hP hE hS hL o1 o2
  have hs := C.2.2.2.2.2.2.2.2.2.2.1
  have K := K p e s m args below meth c D dA ad0 h0 A C H locs ad lm hP hE hS hL o1 (zo_cons trivial (zo_tl o2))
  rw [List.map_cons, zc_a, hE.1 0 (Or.inl (Nat.zero_le 1))]
  exact va_tlen C.1 C.2.1 hs.2.2.2.1 hS (v := Int32.ofInt 0) rfl d K
theorem e_copyq {l : Launch} {Y : zM} {Q : zO → zH → Prop} {k n pc : Nat} {ls st : List zV} {h : zH} {idx a b ci : Nat} {sp dp c9 : Int} (d : decode (zMc Y) pc = .ok (.invokestatic idx, 3)) (w1 : Cond.methodLink (zMy Y).cls idx arraycopyName ∈ zT) (w2 : Cond.native arraycopyName ∈ zT) (w3 : Cond.static arraycopyName ∈ zT) (w4 : Cond.initialized "java/lang/System" ∈ zT) (hKa : zK h a = 107) (hKb : zK h b = 107) (hci : ci < 10) (w5 : (zCn ci, "java/lang/Object") ∈ zCa) (h1 : 0 ≤ sp) (h2 : 0 ≤ dp) (h3 : 0 ≤ c9) (h4 : sp + c9 ≤ zN h a) (h5 : dp + c9 ≤ zN h b) (hel : ∀ i, sp ≤ i → i < sp + c9 → ∀ y, zq h a i = some y → zK h y = ci + 1) (hst : st.length ≤ 4) (hf : 1 ≤ (zMr Y).frames) (hlo : 8 + (nativeFrameWords "java/lang/System" "arraycopy" 5 + 11) ≤ (zMr Y).locals) (K : AW l Y Q k n (pc + 3) ls st (sqw h b (zcp (zq h a) (zq h b) sp dp c9))) : AW l Y Q k n pc ls (zI c9 :: zI dp :: zR (some b) :: zI sp :: zR (some a) :: st) h := by
  intro p e s m args below meth c D dA ad0 h0 A C H locs ad lm hP hE hS hL o1 o2
  have hT := C.2.2.2.2.2.1
  obtain ⟨La, ta, qa, t0, f1, f2, f3, f4, f5, fq, ft, fw⟩ := zP_row hP (t := 7) hKa
  rw [zRw_q (by decide)] at fw
  obtain ⟨qb, hqb⟩ := List.getElem?_of_mem ((f2 b).mpr (by omega))
  have hwb := (zW_at (dA := dA) (ad := ad) (h := h) hqb).trans (by rw [zEn_r (t := 7) hKb, zRw_q (by decide)])
  have hna := hP.1.2.2.2.2.1 a
  have hnb := hP.1.2.2.2.2.1 b
  have i1 : zin sp := ⟨by omega, by omega⟩
  have i2 : zin dp := ⟨by omega, by omega⟩
  have i3 : zin c9 := ⟨by omega, by omega⟩
  have hcat := zcat_rest (ad := ad) hst
  have hca : va_Nw (.castable (zCn ci) "java/lang/Object") s := C.2.2.2.2.2.2.2.2.2.2.2.1.2.2.1 _ w5
  refine va_copyq (C := zCn ci) (E0 := "java/lang/Object") (E1 := "java/lang/Object") C.1 C.2.1 (by rw [C.2.2.2.1]; exact hL.1.symm) C.2.2.2.2.1 (hT _ w1) (hT _ w2) (hT _ w3) (hT _ w4) f1 f4 f5 hS qa qb t0 t0 fw hwb ft ft (fun y => ?_) (fun y => ?_) (fun y => ?_) ?_ ?_ (fun i hi y hy => ?_) (fun comp c0 g1 g2 => ?_) hf (Nat.le_trans (Nat.add_le_add_right hcat _) hlo) d (fun H1 locs1 p1 p2 p3 => ?_)
  · have := (zin_lt i1 zin_0).mp y
    omega
  · have := (zin_lt i2 zin_0).mp y
    omega
  · have := (zin_lt i3 zin_0).mp y
    omega
  · rw [zcl h1 i1, zcl h3 i3]
    omega
  · rw [zcl h2 i2, zcl h3 i3]
    omega
  · rw [zcl h1 i1] at hy
    rw [zcl h3 i3] at hi
    obtain ⟨y0, hy0, hy1⟩ := Option.map_eq_some_iff.mp hy
    have hk := hel _ (by omega) (by omega) y0 hy0
    obtain ⟨qy, hqy⟩ := List.getElem?_of_mem ((f2 y0).mpr (by omega))
    have := va_recv f1 f4 (zCl_at ci hci) ((zW_at (dA := dA) (ad := ad) (h := h) hqy).trans (by rw [zEn_o hk hci]))
    rw [hy1] at this
    exact this
  · obtain ⟨c9', t1, e1, e2, e3⟩ := Cond.castable_spec (va_Nw.use (A := args) rfl hca)
    cases g2.symm.trans e1
    cases g1.symm.trans e2
    exact e3
  · have e9 : va_cpy (fun j : Nat => (zq h a (j : Int)).map ad) (fun j : Nat => (zq h b (j : Int)).map ad) sp.toNat dp.toNat c9.toNat = (fun j : Nat => (zq (sqw h b (zcp (zq h a) (zq h b) sp dp c9)) b (j : Int)).map ad) := by
      funext j
      show _ = (if b = b then zcp (zq h a) (zq h b) sp dp c9 j else zq h b j).map ad
      rw [if_pos rfl]
      unfold va_cpy zcp
      by_cases e : dp ≤ (j : Int) ∧ (j : Int) < dp + c9
      · rw [if_pos e, if_pos ⟨by omega, by omega⟩]
        exact congrArg (fun z => (zq h a z).map ad) (by omega)
      · rw [if_neg e, if_neg (fun y => e ⟨by omega, by omega⟩)]
    rw [zcl h1 i1, zcl h2 i2, zcl h3 i3, e9] at p1 p2
    refine K p e s m args below meth c D dA ad0 h0 A C H1 locs1 ad lm (zP_stored (h := h) (h' := sqw h b (zcp (zq h a) (zq h b) sp dp c9)) (zG_sqw hP.1 (fun j => ?_)) (fun _ => rfl) f1 f2 f3 f5 hqb ((zEn_r (h := sqw h b (zcp (zq h a) (zq h b) sp dp c9)) (t := 7) hKb).trans (by rw [zRw_q (by decide)]; rfl)) (fun m hm => zEn_sqw hm) p1 p2) (zE_st hE (fun _ => rfl)) p3 hL (zos_st (h := h) (h' := sqw h b (zcp (zq h a) (zq h b) sp dp c9)) (fun _ => rfl) o1) (zos_st (h := h) (h' := sqw h b (zcp (zq h a) (zq h b) sp dp c9)) (fun _ => rfl) (zo_tl (zo_tl (zo_tl (zo_tl (zo_tl o2))))))
    unfold zcp
    split
    · exact hP.1.2.2.2.1 a _
    · exact hP.1.2.2.2.1 b _
/-- a list at n: its row ed of cp places, its length, what it holds -/
def LA (h : zH) (n ed : Nat) (cp len : Int) (q : Int → Option Nat) : Prop := zK h n = 1 ∧ zr h 1 n = some ed ∧ zf h 2 n = len ∧ (0 ≤ len ∧ len ≤ cp) ∧ ((ed = 0 ∧ cp = 0) ∨ (0 < ed ∧ ed ≠ n ∧ zK h ed = 107 ∧ zN h ed = cp)) ∧ ∀ i, 0 ≤ i → i < len → zq h ed i = q i
theorem tw_al112 : Cond.methodLink RJx4a65c 112 arraycopyName ∈ zT := zTm (by decide +kernel) rfl
theorem LA_rm1 {h : zH} {n ed : Nat} {cp len mc i : Int} {q : Int → Option Nat} (hA : LA h n ed cp len q) (h0 : 0 ≤ i) (h1 : i < len) (h2 : len - 1 ≤ i) : LA (sq (sf (sf h 0 n mc) 2 n (len - 1)) ed (len - 1) none) n ed cp (len - 1) (fun j => if j < i then q j else q (j + 1)) := by
  obtain ⟨a1, a2, a3, a4, a5, a6⟩ := hA
  refine ⟨a1, a2, z2_eq, ⟨by omega, by omega⟩, a5, fun j j0 j1 => ?_⟩
  show z3 (zq h) ed (len - 1) none ed j = _
  rw [z3_ni (by omega)]
  show zq h ed j = if j < i then q j else q (j + 1)
  rw [if_pos (by omega)]
  exact a6 j j0 (by omega)
theorem LA_rm2 {h : zH} {n ed : Nat} {cp len mc i : Int} {q : Int → Option Nat} (hA : LA h n ed cp len q) (h0 : 0 ≤ i) (h1 : i < len) (h2 : i < len - 1) : LA (sq (sf (sqw (sf h 0 n mc) ed (zcp (zq (sf h 0 n mc) ed) (zq (sf h 0 n mc) ed) (i + 1) i (len - 1 - i))) 2 n (len - 1)) ed (len - 1) none) n ed cp (len - 1) (fun j => if j < i then q j else q (j + 1)) := by
  obtain ⟨a1, a2, a3, a4, a5, a6⟩ := hA
  refine ⟨a1, a2, z2_eq, ⟨by omega, by omega⟩, a5, fun j j0 j1 => ?_⟩
  show z3 (fun m j => if m = ed then zcp (zq h ed) (zq h ed) (i + 1) i (len - 1 - i) j else zq h m j) ed (len - 1) none ed j = _
  rw [z3_ni (by omega), if_pos rfl]
  unfold zcp
  show _ = if j < i then q j else q (j + 1)
  by_cases e : j < i
  · rw [if_neg (by omega), if_pos e]
    exact a6 j j0 (by omega)
  · rw [if_pos (by omega), if_neg e, show i + 1 + (j - i) = j + 1 by omega]
    exact a6 (j + 1) (by omega) (by omega)
