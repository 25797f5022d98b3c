/-! rows that read and write the heap -/
theorem e_getf {l : Launch} {Y : zM} {Q : zO → zH → Prop} {k n pc : Nat} {ls st : List zV} {h : zH} {idx ci kf f a : Nat} {v : zV} (d : decode (zMc Y) pc = .ok (.getfield idx, 3)) (F : zFL (zMy Y).cls idx ci kf f) (hK : zK h a = ci + 1) (hv : ∀ ad, zFv ad h (zTy ci kf) f a = zc ad v) (hov : zokv h v) (K : AW l Y Q k n (pc + 3) ls (v :: st) h) : AW l Y Q k n pc ls (zR (some a) :: st) h := by
  intro p e s m args below meth c D dA ad0 h0 A C H locs ad lm hP hE hS hL o1 o2
  have hx := C.1
  have hb := C.2.1
  have K := K p e s m args below meth c D dA ad0 h0 A C H locs ad lm hP hE hS hL o1 (zo_cons hov (zo_tl o2))
  obtain ⟨hci, hkf, hf, ref, hlink, hsame⟩ := F
  obtain ⟨L, tys, q0, h1, h2, h3, h4, h5, hq⟩ := zP_at hP (n := a) (by rw [hK]; omega)
  have hT := C.2.2.2.2.2.1
  subst hf
  refine va_get hx hb hT (zCl_ws ci hci) C.2.2.2.2.1 h1 h4 q0 ((zW_at hq).trans (by rw [zEn_o hK hci])) (zCl_at ci hci) kf hkf (hT _ hlink) ?_ (zOb_at hkf) d ?_
  · rcases hsame with hs | hs
    · intro x hx; rw [hs]; exact hx
    · exact u_same (hT _ hs)
  · rw [hv ad]
    exact K
theorem e_getI {l : Launch} {Y : zM} {Q : zO → zH → Prop} {k n pc : Nat} {ls st : List zV} {h : zH} {idx ci kf f a : Nat} {z : Int} (d : decode (zMc Y) pc = .ok (.getfield idx, 3)) (F : zFL (zMy Y).cls idx ci kf f) (ht : zIs (zTy ci kf) = 0) (hK : zK h a = ci + 1) (hz : zf h f a = z) (K : zin z → AW l Y Q k n (pc + 3) ls (zI z :: st) h) : AW l Y Q k n pc ls (zR (some a) :: st) h := by
  intro p e s m args below meth c D dA ad0 h0 A C H locs ad lm hP
  exact e_getf d F hK (v := zI z) (fun ad => by rw [zFv_I ht, hz]; rfl) trivial (K (hz ▸ hP.1.1 f a)) p e s m args below meth c D dA ad0 h0 A C H locs ad lm hP
theorem e_getR {l : Launch} {Y : zM} {Q : zO → zH → Prop} {k n pc : Nat} {ls st : List zV} {h : zH} {idx ci kf f a : Nat} {r : Option Nat} (d : decode (zMc Y) pc = .ok (.getfield idx, 3)) (F : zFL (zMy Y).cls idx ci kf f) (ht : zIs (zTy ci kf) = 1) (hK : zK h a = ci + 1) (hz : zr h f a = r) (K : AW l Y Q k n (pc + 3) ls (zR r :: st) h) : AW l Y Q k n pc ls (zR (some a) :: st) h := by
  intro p e s m args below meth c D dA ad0 h0 A C H locs ad lm hP
  exact e_getf d F hK (v := zR r) (fun ad => by rw [zFv_R ht, hz]; rfl) (hz ▸ hP.1.2.2.1 f a) K p e s m args below meth c D dA ad0 h0 A C H locs ad lm hP
theorem e_getL {l : Launch} {Y : zM} {Q : zO → zH → Prop} {k n pc : Nat} {ls st : List zV} {h : zH} {idx ci kf f a : Nat} {z : Int} (d : decode (zMc Y) pc = .ok (.getfield idx, 3)) (F : zFL (zMy Y).cls idx ci kf f) (ht : zIs (zTy ci kf) = 2) (hK : zK h a = ci + 1) (hz : zl h f a = z) (K : AW l Y Q k n (pc + 3) ls (zL z :: st) h) : AW l Y Q k n pc ls (zR (some a) :: st) h :=
  e_getf d F hK (v := zL z) (fun ad => by rw [zFv_L ht, hz]; rfl) trivial K
theorem zFv_congr {ad : Nat → Nat} {h h' : zH} {ty : FieldType} {i n : Nat} (e1 : zf h' i n = zf h i n) (e2 : zr h' i n = zr h i n) (e3 : zl h' i n = zl h i n) : zFv ad h' ty i n = zFv ad h ty i n := by
  unfold zFv
  rw [e1, e2, e3]
/-- may this method write this field -/
def zMay (Y : zM) (ci kf : Nat) : Prop := (zCt ci kf).2.2.2 = false ∨ ((zCt ci kf).2.2.2 = true ∧ (zMy Y).name = "<init>" ∧ (zCt ci kf).1 = (zMy Y).cls)
theorem e_putf {l : Launch} {Y : zM} {Q : zO → zH → Prop} {k n pc : Nat} {ls st : List zV} {h h' : zH} {idx ci kf f a : Nat} {v : zV} (d : decode (zMc Y) pc = .ok (.putfield idx, 3)) (F : zFL (zMy Y).cls idx ci kf f) (hm : zMay Y ci kf) (hK : zK h a = ci + 1) (hn : ∀ ad, narrow (zTy ci kf) (zc ad v) = zc ad v) (hfit : ∀ ad, fits (zTy ci kf) (zc ad v) = true) (hG : zG h → zokv h v → zG h') (hKs : ∀ m, zK h' m = zK h m) (hv : ∀ ad, zFv ad h' (zTy ci kf) f a = zc ad v) (ho1 : ∀ ad j, j ≠ kf → zFv ad h' (zTy ci j) (100 * ci + j) a = zFv ad h (zTy ci j) (100 * ci + j) a) (ho2 : ∀ dA ad m, m ≠ a → zEn dA ad h' m = zEn dA ad h m) (K : AW l Y Q k n (pc + 3) ls st h') : AW l Y Q k n pc ls (v :: zR (some a) :: st) h := by
  intro p e s m args below meth c D dA ad0 h0 A C H locs ad lm hP hE hS hL o1 o2
  have hx := C.1
  have hb := C.2.1
  obtain ⟨hci, hkf, hf, ref, hlink, hsame⟩ := F
  obtain ⟨L, tys, q0, h1, h2, h3, h4, h5, hq⟩ := zP_at hP (n := a) (by rw [hK]; omega)
  have hT := C.2.2.2.2.2.1
  subst hf
  have hs9 : ∀ x, s.fieldFound? (zCt ci kf).1 (zCt ci kf).2.1 (zCt ci kf).2.2.1 = some x → s.fieldFound? ref (zCt ci kf).2.1 (zCt ci kf).2.2.1 = some x := by
    rcases hsame with hs | hs
    · intro x hx; rw [hs]; exact hx
    · exact u_same (hT _ hs)
  have key : ∀ (H1 : Heap) (locs1 : List Loc), va_P D zCl ((zW dA ad h L).set q0 (ad a, .inr (ci, (zOb ad h ci a).set kf (zc ad v)))) H1 → va_D A ((zW dA ad h L).set q0 (ad a, .inr (ci, (zOb ad h ci a).set kf (zc ad v)))) → va_S A s.heap H1 locs1 →
      W p l e (zMr Y) s m args below meth c H1 locs1 k n (vx_MQ below (zQc D dA ad0 h0 Q A) (zXc D dA ad0 h0 Q A) args s (zMr Y).cells (zMr Y).slots A) (F0 m (pc + 3) lm (st.map (zc ad))) := by
    intro H1 locs1 p1 p2 p3
    have e1 : zEn dA ad h' a = .inr (ci, (zOb ad h ci a).set kf (zc ad v)) := by
      rw [zEn_o ((hKs a).trans hK) hci, zOb_set (hv ad) (ho1 ad)]
    exact K p e s m args below meth c D dA ad0 h0 A C H1 locs1 ad lm (zP_stored (hG hP.1 (zo_hd o2)) hKs h1 h2 h3 h5 hq e1 (ho2 dA ad) p1 p2) (zE_st hE hKs) p3 hL (zos_st hKs o1) (zos_st hKs (zo_tl (zo_tl o2)))
  have hq9 := (zW_at (dA := dA) (ad := ad) (h := h) hq).trans (by rw [zEn_o hK hci])
  rcases hm with hm | ⟨hm1, hm2, hm3⟩
  · exact va_put hx hb hT (zCl_ws ci hci) (zTy ci) (zCl_ty ci hci) (zCl_nm ci hci) C.2.2.2.2.1 h1 h4 h5 hS q0 hq9 (zCl_at ci hci) kf hkf (hT _ hlink) hs9 hm (zCl_ty ci hci kf hkf) (hn ad) (hfit ad) (by rw [zOb_len]; exact hkf) d key
  · exact va_putF hx hb hT (zCl_ws ci hci) (zTy ci) (zCl_ty ci hci) (zCl_nm ci hci) C.2.2.2.2.1 h1 h4 h5 hS q0 hq9 (zCl_at ci hci) kf hkf (hT _ hlink) hs9 hm1 (C.2.2.2.2.2.2.2.1.trans hm2) hm3 (zCl_ty ci hci kf hkf) (hn ad) (hfit ad) (by rw [zOb_len]; exact hkf) d key
/-- what fits a field of this type -/
def zfit (ty : FieldType) (z : Int) : Prop := match ty with
  | .int => True
  | .boolean => z = 0 ∨ z = 1
  | .char => 0 ≤ z ∧ z < 65536
  | _ => False
theorem zfit_ok {ty : FieldType} {z : Int} (h : zfit ty z) : narrow ty (.int (Int32.ofInt z)) = .int (Int32.ofInt z) ∧ fits ty (.int (Int32.ofInt z)) = true := by
  cases ty <;> first | (exact False.elim h) | exact ⟨rfl, rfl⟩ | skip
  · obtain ⟨q, rfl⟩ := Int.eq_ofNat_of_zero_le h.1
    have h2 : q < 65536 := by have := h.2; omega
    have := pk_charN h2
    unfold nI at this
    rwa [← Int32.ofInt_eq_ofNat] at this
  · rcases h with h | h <;> subst h <;> exact ⟨by decide, by decide⟩
theorem e_putI {l : Launch} {Y : zM} {Q : zO → zH → Prop} {k n pc : Nat} {ls st : List zV} {h : zH} {idx ci kf f a : Nat} {z : Int} (d : decode (zMc Y) pc = .ok (.putfield idx, 3)) (F : zFL (zMy Y).cls idx ci kf f) (hm : zMay Y ci kf) (hfi : zfit (zTy ci kf) z) (hK : zK h a = ci + 1) (hz : zin z) (K : AW l Y Q k n (pc + 3) ls st (sf h f a z)) : AW l Y Q k n pc ls (zI z :: zR (some a) :: st) h := by
  have ht : zIs (zTy ci kf) = 0 := by
    cases hty : zTy ci kf <;> rw [hty] at hfi <;> first | rfl | (exact False.elim hfi)
  have hf := F.2.2.1
  refine e_putf d F hm hK (fun ad => (zfit_ok hfi).1) (fun ad => (zfit_ok hfi).2) (fun g _ => zG_sf g hz) (fun _ => rfl) (fun ad => ?_) (fun ad j hj => ?_) (fun dA ad m hm => ?_) K
  · rw [zFv_I ht]
    show Value.int (Int32.ofInt (z2 (zf h) f a z f a)) = _
    rw [z2_eq]
    rfl
  · exact zFv_congr (z2_ni (by omega)) rfl rfl
  · exact zEn_congr rfl rfl (fun i => z2_nn hm) (fun _ => rfl) (fun _ => rfl) (fun _ => rfl) (fun _ => rfl) (fun _ => rfl) (fun _ => rfl)
theorem zrf_fit {ty : FieldType} {ad : Nat → Nat} {r : Option Nat} (ht : zIs ty = 1) : narrow ty (zc ad (zR r)) = zc ad (zR r) ∧ fits ty (zc ad (zR r)) = true := by
  cases ty <;> first | (cases ht; done) | (cases r <;> exact ⟨rfl, rfl⟩)
theorem e_putR {l : Launch} {Y : zM} {Q : zO → zH → Prop} {k n pc : Nat} {ls st : List zV} {h : zH} {idx ci kf f a : Nat} {r : Option Nat} (d : decode (zMc Y) pc = .ok (.putfield idx, 3)) (F : zFL (zMy Y).cls idx ci kf f) (hm : zMay Y ci kf) (ht : zIs (zTy ci kf) = 1) (hK : zK h a = ci + 1) (K : AW l Y Q k n (pc + 3) ls st (sr h f a r)) : AW l Y Q k n pc ls (zR r :: zR (some a) :: st) h := by
  have hf := F.2.2.1
  refine e_putf d F hm hK (fun ad => (zrf_fit ht).1) (fun ad => (zrf_fit ht).2) (fun g o => zG_sr g o) (fun _ => rfl) (fun ad => ?_) (fun ad j hj => ?_) (fun dA ad m hm => ?_) K
  · rw [zFv_R ht]
    show va_rf ((z2 (zr h) f a r f a).map ad) = _
    rw [z2_eq]
    rfl
  · exact zFv_congr rfl (z2_ni (by omega)) rfl
  · exact zEn_congr rfl rfl (fun _ => rfl) (fun _ => rfl) (fun i => by show (z2 (zr h) f a r i m).map ad = _; rw [z2_nn hm]) (fun _ => rfl) (fun _ => rfl) (fun _ => rfl) (fun _ => rfl)
theorem e_putL {l : Launch} {Y : zM} {Q : zO → zH → Prop} {k n pc : Nat} {ls st : List zV} {h : zH} {idx ci kf f a : Nat} {z : Int} (d : decode (zMc Y) pc = .ok (.putfield idx, 3)) (F : zFL (zMy Y).cls idx ci kf f) (hm : zMay Y ci kf) (ht : zTy ci kf = .long) (hK : zK h a = ci + 1) (K : AW l Y Q k n (pc + 3) ls st (sl h f a z)) : AW l Y Q k n pc ls (zL z :: zR (some a) :: st) h := by
  have hf := F.2.2.1
  refine e_putf d F hm hK (fun ad => by rw [ht]; rfl) (fun ad => by rw [ht]; rfl) (fun g o => zG_sl g) (fun _ => rfl) (fun ad => ?_) (fun ad j hj => ?_) (fun dA ad m hm => ?_) K
  · rw [zFv_L (by rw [ht]; rfl)]
    show Value.long (Int64.ofInt (z2 (zl h) f a z f a)) = _
    rw [z2_eq]
    rfl
  · exact zFv_congr rfl rfl (z2_ni (by omega))
  · exact zEn_congr rfl rfl (fun _ => rfl) (fun _ => rfl) (fun _ => rfl) (fun _ => rfl) (fun i => z2_nn hm) (fun _ => rfl) (fun _ => rfl)
theorem zcl {i : Int} (h0 : 0 ≤ i) (h1 : zin i) : (Int32.ofInt i).toNatClampNeg = i.toNat := by
  obtain ⟨q, rfl⟩ := Int.eq_ofNat_of_zero_le h0
  have := h1.2
  rw [Int32.ofInt_eq_ofNat, Int32.toNatClampNeg_ofNat_of_lt (by omega)]
  rfl
theorem zvin {i : Int} {h : zH} {a : Nat} (hG : zG h) (h0 : 0 ≤ i) (h1 : i < zN h a) : vp_in (Int32.ofInt i) (zN h a).toNat ∧ (((Int32.ofInt i).toNatClampNeg : Nat) : Int) = i ∧ zin i := by
  have hz := hG.2.2.2.2.1 a
  have hi : zin i := ⟨by omega, by omega⟩
  refine ⟨?_, ?_, hi⟩
  · unfold vp_in
    rw [zcl h0 hi]
    intro z
    rcases z with z | z
    · have := (zin_lt hi zin_0).mp z
      omega
    · omega
  · rw [zcl h0 hi]
    omega
theorem zidx {tys : List (ClassId × FieldType)} {q : ClassId × FieldType} (h : q ∈ tys) : ∃ t0 : Nat, tys[t0]? = some q := List.getElem?_of_mem h
theorem zP_row {s : State} {D : va_G} {dA : Nat → ClassId} {A : Nat → Prop} {ad : Nat → Nat} {h : zH} {H : Heap} (hP : zP s D dA A ad h H) {n t : Nat} (hn : zK h n = 100 + t) : ∃ (L : List Nat) (tys : List (ClassId × FieldType)) (q0 t0 : Nat), va_K D zCl tys s ∧ (∀ n, n ∈ L ↔ zK h n ≠ 0) ∧ (∀ n ∈ L, 100 ≤ zK h n → (dA (zK h n - 100), zAt (zK h n - 100)) ∈ tys) ∧ va_P D zCl (zW dA ad h L) H ∧ va_D A (zW dA ad h L) ∧ L[q0]? = some n ∧ tys[t0]? = some (dA t, zAt t) ∧ (zW dA ad h L)[q0]? = some (ad n, .inl (dA t, zRw ad h t n)) := by
  obtain ⟨L, tys, q0, h1, h2, h3, h4, h5, hq⟩ := zP_at hP (n := n) (by rw [hn]; omega)
  have h9 := h3 n (List.mem_of_getElem? hq) (by omega)
  rw [hn, Nat.add_sub_cancel_left] at h9
  obtain ⟨t0, ht0⟩ := zidx h9
  exact ⟨L, tys, q0, t0, h1, h2, h3, h4, h5, hq, ht0, (zW_at hq).trans (by rw [zEn_r hn])⟩
theorem e_iald {l : Launch} {Y : zM} {Q : zO → zH → Prop} {k n pc : Nat} {ls st : List zV} {h : zH} {a : Nat} {i z : Int} (d : decode (zMc Y) pc = .ok (.iaload, 1)) (hK : zK h a = 100) (hi0 : 0 ≤ i) (hi1 : i < zN h a) (hz : za h a i = z) (K : zin z → AW l Y Q k n (pc + 1) ls (zI z :: st) h) : AW l Y Q k n pc ls (zI i :: zR (some a) :: st) h := by
  intro p e s m args below meth c D dA ad0 h0 A C H locs ad lm hP hE hS hL o1 o2
  have hx := C.1
  have hb := C.2.1
  have K := K (hz ▸ hP.1.2.1 a i) p e s m args below meth c D dA ad0 h0 A C H locs ad lm hP hE hS hL o1 (zo_cons trivial (zo_tl (zo_tl o2)))
  obtain ⟨L, tys, q0, t0, h1, h2, h3, h4, h5, hq, ht0, hw⟩ := zP_row hP (t := 0) hK
  obtain ⟨v1, v2, v3⟩ := zvin hP.1 hi0 hi1
  refine va_iald hx hb h1 h4 q0 t0 hw ht0 v1 d ?_
  rw [v2, hz]
  exact K
theorem e_zald {l : Launch} {Y : zM} {Q : zO → zH → Prop} {k n pc : Nat} {ls st : List zV} {h : zH} {a : Nat} {i z : Int} (d : decode (zMc Y) pc = .ok (.baload, 1)) (hK : zK h a = 101) (hi0 : 0 ≤ i) (hi1 : i < zN h a) (hz : za h a i = z) (K : (z = 0 ∨ z = 1) → AW l Y Q k n (pc + 1) ls (zI z :: st) h) : AW l Y Q k n pc ls (zI i :: zR (some a) :: st) h := by
  intro p e s m args below meth c D dA ad0 h0 A C H locs ad lm hP hE hS hL o1 o2
  have hx := C.1
  have hb := C.2.1
  have K := K (hz ▸ hP.1.2.2.2.2.2.2.2 a i hK) p e s m args below meth c D dA ad0 h0 A C H locs ad lm hP hE hS hL o1 (zo_cons trivial (zo_tl (zo_tl o2)))
  obtain ⟨L, tys, q0, t0, h1, h2, h3, h4, h5, hq, ht0, hw⟩ := zP_row hP (t := 1) hK
  obtain ⟨v1, v2, v3⟩ := zvin hP.1 hi0 hi1
  refine va_zald hx hb h1 h4 q0 t0 hw ht0 v1 d ?_
  rw [v2, hz]
  exact K
theorem zEn_sa {dA : Nat → ClassId} {ad : Nat → Nat} {h : zH} {n m : Nat} {i z : Int} (hm : m ≠ n) : zEn dA ad (sa h n i z) m = zEn dA ad h m :=
  zEn_congr rfl rfl (fun _ => rfl) (fun j => z3_nn hm) (fun _ => rfl) (fun _ => rfl) (fun _ => rfl) (fun _ => rfl) (fun _ => rfl)
theorem zup_a {h : zH} {a : Nat} {i z : Int} (h0 : 0 ≤ i) : (fun j : Nat => Int32.ofInt (za (sa h a i z) a (j : Int))) = upd (fun j : Nat => Int32.ofInt (za h a (j : Int))) i.toNat (Int32.ofInt z) := by
  funext j
  show Int32.ofInt (z3 (za h) a i z a j) = _
  unfold upd z3
  by_cases e : (j : Int) = i
  · rw [if_pos ⟨rfl, e⟩, if_pos (by omega)]
  · rw [if_neg (fun y => e y.2), if_neg (by omega)]
theorem e_iast {l : Launch} {Y : zM} {Q : zO → zH → Prop} {k n pc : Nat} {ls st : List zV} {h : zH} {a : Nat} {i z : Int} (d : decode (zMc Y) pc = .ok (.iastore, 1)) (hK : zK h a = 100) (hi0 : 0 ≤ i) (hi1 : i < zN h a) (hz : zin z) (K : AW l Y Q k n (pc + 1) ls st (sa h a i z)) : AW l Y Q k n pc ls (zI z :: zI i :: zR (some a) :: st) h := by
  intro p e s m args below meth c D dA ad0 h0 A C H locs ad lm hP hE hS hL o1 o2
  have hx := C.1
  have hb := C.2.1
  obtain ⟨L, tys, q0, t0, h1, h2, h3, h4, h5, hq, ht0, hw⟩ := zP_row hP (t := 0) hK
  obtain ⟨v1, v2, v3⟩ := zvin hP.1 hi0 hi1
  refine va_iast hx hb h1 h4 h5 hS q0 t0 hw ht0 v1 d (fun H1 locs1 p1 p2 p3 => ?_)
  rw [zcl hi0 v3, ← zup_a hi0] at p1 p2
  exact K p e s m args below meth c D dA ad0 h0 A C H1 locs1 ad lm (zP_stored (h := h) (h' := sa h a i z) (zG_sa hP.1 hz (fun y => by omega)) (fun _ => rfl) h1 h2 h3 h5 hq (zEn_r (h := sa h a i z) (t := 0) hK) (fun m hm => zEn_sa hm) p1 p2) (zE_st hE (fun _ => rfl)) p3 hL (zos_st (h := h) (h' := sa h a i z) (fun _ => rfl) o1) (zos_st (h := h) (h' := sa h a i z) (fun _ => rfl) (zo_tl (zo_tl (zo_tl o2))))
theorem znar_b {z : Int} (hz : z = 0 ∨ z = 1) : vp_nar .boolean (Int32.ofInt z) = Int32.ofInt z := by
  rcases hz with h | h <;> subst h <;> decide
theorem e_zast {l : Launch} {Y : zM} {Q : zO → zH → Prop} {k n pc : Nat} {ls st : List zV} {h : zH} {a : Nat} {i z : Int} (d : decode (zMc Y) pc = .ok (.bastore, 1)) (hK : zK h a = 101) (hi0 : 0 ≤ i) (hi1 : i < zN h a) (hz : z = 0 ∨ z = 1) (K : AW l Y Q k n (pc + 1) ls st (sa h a i z)) : AW l Y Q k n pc ls (zI z :: zI i :: zR (some a) :: st) h := by
  intro p e s m args below meth c D dA ad0 h0 A C H locs ad lm hP hE hS hL o1 o2
  have hx := C.1
  have hb := C.2.1
  obtain ⟨L, tys, q0, t0, h1, h2, h3, h4, h5, hq, ht0, hw⟩ := zP_row hP (t := 1) hK
  obtain ⟨v1, v2, v3⟩ := zvin hP.1 hi0 hi1
  refine va_zast hx hb h1 h4 h5 hS q0 t0 hw ht0 v1 d (fun H1 locs1 p1 p2 p3 => ?_)
  rw [zcl hi0 v3, znar_b hz, ← zup_a hi0] at p1 p2
  exact K p e s m args below meth c D dA ad0 h0 A C H1 locs1 ad lm (zP_stored (h := h) (h' := sa h a i z) (zG_sa hP.1 (by rcases hz with y | y <;> subst y <;> exact ⟨by decide, by decide⟩) (fun _ => hz)) (fun _ => rfl) h1 h2 h3 h5 hq (zEn_r (h := sa h a i z) (t := 1) hK) (fun m hm => zEn_sa hm) p1 p2) (zE_st hE (fun _ => rfl)) p3 hL (zos_st (h := h) (h' := sa h a i z) (fun _ => rfl) o1) (zos_st (h := h) (h' := sa h a i z) (fun _ => rfl) (zo_tl (zo_tl (zo_tl o2))))
theorem zRw_q {ad : Nat → Nat} {h : zH} {t a : Nat} (ht : 4 ≤ t) : zRw ad h t a = ((zN h a).toNat, .inr (.inr (.inr (.inr (fun j => (zq h a (j : Int)).map ad))))) := by
  match t, ht with
  | t + 4, _ => rfl
theorem zAt_q {t : Nat} (ht : 4 ≤ t) (h8 : t < 8) : ∃ C, zAt t = .object C := by
  match t, ht, h8 with
  | 4, _, _ => exact ⟨_, rfl⟩
  | 5, _, _ => exact ⟨_, rfl⟩
  | 6, _, _ => exact ⟨_, rfl⟩
  | 7, _, _ => exact ⟨_, rfl⟩
theorem e_aald {l : Launch} {Y : zM} {Q : zO → zH → Prop} {k n pc : Nat} {ls st : List zV} {h : zH} {a t : Nat} {i : Int} {r : Option Nat} (d : decode (zMc Y) pc = .ok (.aaload, 1)) (hK : zK h a = 100 + t) (ht4 : 4 ≤ t) (ht8 : t < 8) (hi0 : 0 ≤ i) (hi1 : i < zN h a) (hz : zq h a i = r) (K : AW l Y Q k n (pc + 1) ls (zR r :: st) h) : AW l Y Q k n pc ls (zI i :: zR (some a) :: st) h := by
  intro p e s m args below meth c D dA ad0 h0 A C H locs ad lm hP hE hS hL o1 o2
  have hx := C.1
  have hb := C.2.1
  have K := K p e s m args below meth c D dA ad0 h0 A C H locs ad lm hP hE hS hL o1 (zo_cons (show zok h r from hz ▸ hP.1.2.2.2.1 a i) (zo_tl (zo_tl o2)))
  obtain ⟨L, tys, q0, t0, h1, h2, h3, h4, h5, hq, ht0, hw⟩ := zP_row hP hK
  obtain ⟨v1, v2, v3⟩ := zvin hP.1 hi0 hi1
  obtain ⟨C9, hC9⟩ := zAt_q ht4 ht8
  rw [hC9] at ht0
  rw [zRw_q ht4] at hw
  refine va_aldq hx hb h1 h4 q0 t0 hw ht0 v1 d ?_
  rw [v2, hz]
  exact K
theorem zEn_sq {dA : Nat → ClassId} {ad : Nat → Nat} {h : zH} {n m : Nat} {i : Int} {r : Option Nat} (hm : m ≠ n) : zEn dA ad (sq h n i r) m = zEn dA ad h m :=
  zEn_congr rfl rfl (fun _ => rfl) (fun _ => rfl) (fun _ => rfl) (fun j => by show (z3 (zq h) n i r m j).map ad = _; rw [z3_nn hm]) (fun _ => rfl) (fun _ => rfl) (fun _ => rfl)
theorem zup_q {ad : Nat → Nat} {h : zH} {a : Nat} {i : Int} {r : Option Nat} (h0 : 0 ≤ i) : (fun j : Nat => (zq (sq h a i r) a (j : Int)).map ad) = va_up (fun j : Nat => (zq h a (j : Int)).map ad) i.toNat (r.map ad) := by
  funext j
  show (z3 (zq h) a i r a j).map ad = _
  unfold va_up z3
  by_cases e : (j : Int) = i
  · rw [if_pos ⟨rfl, e⟩, if_pos (by omega)]
  · rw [if_neg (fun y => e y.2), if_neg (by omega)]
/-- may an object of kind kd be put into a row of kind t -/
def zPut (t ci : Nat) : Prop := (t = 4 ∧ ci = 2) ∨ (t = 5 ∧ ci = 6) ∨ (t = 6 ∧ ci = 8)
theorem e_aast {l : Launch} {Y : zM} {Q : zO → zH → Prop} {k n pc : Nat} {ls st : List zV} {h : zH} {a b t ci : Nat} {i : Int} (d : decode (zMc Y) pc = .ok (.aastore, 1)) (hK : zK h a = 100 + t) (hi0 : 0 ≤ i) (hi1 : i < zN h a) (hKb : zK h b = ci + 1) (hput : zPut t ci) (K : AW l Y Q k n (pc + 1) ls st (sq h a i (some b))) : AW l Y Q k n pc ls (zR (some b) :: zI i :: zR (some a) :: st) h := by
  intro p e s m args below meth c D dA ad0 h0 A C H locs ad lm hP hE hS hL o1 o2
  have hx := C.1
  have hb := C.2.1
  obtain ⟨L, tys, q0, t0, h1, h2, h3, h4, h5, hq, ht0, hw⟩ := zP_row hP hK
  have ht4 : 4 ≤ t := by rcases hput with y | y | y <;> omega
  have hci : ci < 10 := by rcases hput with y | y | y <;> omega
  rw [zRw_q ht4] at hw
  have hty : zAt t = .object (zCn ci) := by rcases hput with ⟨rfl, rfl⟩ | ⟨rfl, rfl⟩ | ⟨rfl, rfl⟩ <;> rfl
  rw [hty] at ht0
  obtain ⟨qk, hqk⟩ := List.getElem?_of_mem ((h2 b).mpr (by omega))
  obtain ⟨v1, v2, v3⟩ := zvin hP.1 hi0 hi1
  refine va_astq hx hb h1 h4 h5 hS q0 t0 qk ci (r := (zCn ci, zCt ci, zFn ci)) hw ht0 ((zW_at hqk).trans (by rw [zEn_o hKb hci])) (zCl_at ci hci) v1 d (fun H1 locs1 p1 p2 p3 => ?_)
  rw [zcl hi0 v3, show some (ad b) = (some b).map ad from rfl, ← zup_q hi0] at p1 p2
  have o9 : zok h (some b) := fun y hy => by cases hy; exact Or.inr (by omega)
  exact K p e s m args below meth c D dA ad0 h0 A C H1 locs1 ad lm (zP_stored (h := h) (h' := sq h a i (some b)) (zG_sq hP.1 o9) (fun _ => rfl) h1 h2 h3 h5 hq ((zEn_r (h := sq h a i (some b)) hK).trans (by rw [zRw_q ht4]; rfl)) (fun m hm => zEn_sq hm) p1 p2) (zE_st hE (fun _ => rfl)) p3 hL (zos_st (h := h) (h' := sq h a i (some b)) (fun _ => rfl) o1) (zos_st (h := h) (h' := sq h a i (some b)) (fun _ => rfl) (zo_tl (zo_tl (zo_tl o2))))
theorem e_aastN {l : Launch} {Y : zM} {Q : zO → zH → Prop} {k n pc : Nat} {ls st : List zV} {h : zH} {a t : Nat} {i : Int} (d : decode (zMc Y) pc = .ok (.aastore, 1)) (hK : zK h a = 100 + t) (ht4 : 4 ≤ t) (ht8 : t < 8) (hi0 : 0 ≤ i) (hi1 : i < zN h a) (K : AW l Y Q k n (pc + 1) ls st (sq h a i none)) : AW l Y Q k n pc ls (zR none :: zI i :: zR (some a) :: st) h := by
  intro p e s m args below meth c D dA ad0 h0 A C H locs ad lm hP hE hS hL o1 o2
  have hx := C.1
  have hb := C.2.1
  obtain ⟨L, tys, q0, t0, h1, h2, h3, h4, h5, hq, ht0, hw⟩ := zP_row hP hK
  rw [zRw_q ht4] at hw
  obtain ⟨C9, hC9⟩ := zAt_q ht4 ht8
  rw [hC9] at ht0
  obtain ⟨v1, v2, v3⟩ := zvin hP.1 hi0 hi1
  refine va_astqN hx hb h1 h4 h5 hS q0 t0 hw ht0 v1 d (fun H1 locs1 p1 p2 p3 => ?_)
  rw [zcl hi0 v3, show (none : Option Nat) = (none : Option Nat).map ad from rfl, ← zup_q hi0] at p1 p2
  exact K p e s m args below meth c D dA ad0 h0 A C H1 locs1 ad lm (zP_stored (h := h) (h' := sq h a i none) (zG_sq hP.1 zok_none) (fun _ => rfl) h1 h2 h3 h5 hq ((zEn_r (h := sq h a i none) hK).trans (by rw [zRw_q ht4]; rfl)) (fun m hm => zEn_sq hm) p1 p2) (zE_st hE (fun _ => rfl)) p3 hL (zos_st (h := h) (h' := sq h a i none) (fun _ => rfl) o1) (zos_st (h := h) (h' := sq h a i none) (fun _ => rfl) (zo_tl (zo_tl (zo_tl o2))))
theorem zRw_len {ad : Nat → Nat} {h : zH} {t a : Nat} : (zRw ad h t a).1 = (zN h a).toNat := by
  unfold zRw
  split <;> rfl
theorem e_alen {l : Launch} {Y : zM} {Q : zO → zH → Prop} {k n pc : Nat} {ls st : List zV} {h : zH} {a t : Nat} {z : Int} (d : decode (zMc Y) pc = .ok (.arraylength, 1)) (hK : zK h a = 100 + t) (hz : zN h a = z) (K : AW l Y Q k n (pc + 1) ls (zI z :: st) h) : AW l Y Q k n pc ls (zR (some a) :: st) h := by
  intro p e s m args below meth c D dA ad0 h0 A C H locs ad lm hP hE hS hL o1 o2
  have hx := C.1
  have hb := C.2.1
  have K := K p e s m args below meth c D dA ad0 h0 A C H locs ad lm hP hE hS hL o1 (zo_cons trivial (zo_tl o2))
  obtain ⟨L, tys, q0, t0, h1, h2, h3, h4, h5, hq, ht0, hw⟩ := zP_row hP hK
  refine va_alen hx hb h1 h4 q0 t0 hw ht0 (v := Int32.ofInt z) ?_ d K
  have := (hP.1.2.2.2.2.1 a).1
  rw [zRw_len, ← hz, ← Int32.ofInt_eq_ofNat]
  congr 1
  omega
