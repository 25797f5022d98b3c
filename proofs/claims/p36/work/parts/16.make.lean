/-! making objects and rows -/
theorem nw_K {h : zH} {n kd m : Nat} {len : Int} : zK (nw h n kd len) m = if m = n then kd else zK h m := rfl
theorem zok_nw {h : zH} {n kd : Nat} {len : Int} {r : Option Nat} (hkd : kd ≠ 0) (hr : zok h r) : zok (nw h n kd len) r := by
  intro m hm
  rcases hr m hm with y | y
  · exact Or.inl y
  · refine Or.inr ?_
    rw [nw_K]
    split
    · exact hkd
    · exact y
theorem zG_nw {h : zH} {n kd : Nat} {len : Int} (g : zG h) (hn : n ≠ 0) (hkd : kd ≠ 0) (hkr : kd < 11 ∨ (100 ≤ kd ∧ kd < 108)) (hl : 0 ≤ len ∧ len < 2147483648) : zG (nw h n kd len) := by
  obtain ⟨g1, g2, g3, g4, g5, g6, g7, g8⟩ := g
  refine ⟨fun i m => ?_, fun m j => ?_, fun i m => ?_, fun m j => ?_, fun m => ?_, ?_, fun m hm => ?_, fun m j hm => ?_⟩
  · show zin (if m = n then 0 else zf h i m)
    split
    · exact zin_0
    · exact g1 i m
  · show zin (if m = n then 0 else za h m j)
    split
    · exact zin_0
    · exact g2 m j
  · show zok _ (if m = n then none else zr h i m)
    split
    · exact zok_none
    · exact zok_nw hkd (g3 i m)
  · show zok _ (if m = n then none else zq h m j)
    split
    · exact zok_none
    · exact zok_nw hkd (g4 m j)
  · show 0 ≤ (if m = n then len else zN h m) ∧ (if m = n then len else zN h m) < 2147483648
    split
    · exact hl
    · exact g5 m
  · rw [nw_K, if_neg (fun y => hn y.symm)]
    exact g6
  · rw [nw_K] at hm ⊢
    split at hm
    · rename_i e
      rw [if_pos e]
      exact hkr
    · rename_i e
      rw [if_neg e]
      exact g7 m hm
  · show (if m = n then 0 else za h m j) = 0 ∨ (if m = n then 0 else za h m j) = 1
    rw [nw_K] at hm
    split
    · exact Or.inl rfl
    · rename_i e
      rw [if_neg e] at hm
      exact g8 m j hm
/-- the naming with one name more -/
def zad (ad : Nat → Nat) (n q : Nat) : Nat → Nat := fun m => if m = n then q else ad m
theorem zad_E {h : zH} {n kd q : Nat} {len : Int} {ad : Nat → Nat} (hn : 1 < n) (hK : zK h n = 0) : zE h ad (nw h n kd len) (zad ad n q) := by
  refine ⟨fun m hm => ?_, fun m hm => ?_⟩
  · unfold zad
    rw [if_neg]
    intro y
    subst y
    rcases hm with y | y
    · omega
    · exact y hK
  · rw [nw_K, if_neg]
    intro y
    subst y
    exact hm hK
theorem zmap_ad {h : zH} {n q : Nat} {ad : Nat → Nat} {r : Option Nat} (hn : n ≠ 0) (hK : zK h n = 0) (hr : zok h r) : r.map (zad ad n q) = r.map ad := by
  cases r with
  | none => rfl
  | some a =>
    refine congrArg some ?_
    unfold zad
    rw [if_neg]
    intro y
    subst y
    rcases hr a rfl with y | y
    · exact hn y
    · exact y hK
theorem zEn_nw {dA : Nat → ClassId} {h : zH} {n kd q m : Nat} {len : Int} {ad : Nat → Nat} (g : zG h) (hn : n ≠ 0) (hK : zK h n = 0) (hm : m ≠ n) : zEn dA (zad ad n q) (nw h n kd len) m = zEn dA ad h m := by
  refine zEn_congr (if_neg hm) (if_neg hm) (fun i => if_neg hm) (fun j => if_neg hm) (fun i => ?_) (fun j => ?_) (fun i => if_neg hm) (fun j => if_neg hm) (fun j => if_neg hm)
  · show (if m = n then none else zr h i m).map _ = _
    rw [if_neg hm]
    exact zmap_ad hn hK (g.2.2.1 i m)
  · show (if m = n then none else zq h m j).map _ = _
    rw [if_neg hm]
    exact zmap_ad hn hK (g.2.2.2.1 m j)
theorem zP_made {s : State} {D : va_G} {dA : Nat → ClassId} {A : Nat → Prop} {ad : Nat → Nat} {h : zH} {H1 : Heap} {L : List Nat} {tys : List (ClassId × FieldType)} {n kd q : Nat} {len : Int} {E : va_E} (g : zG h) (hn : n ≠ 0) (hK : zK h n = 0) (hkd : kd ≠ 0) (hkr : kd < 11 ∨ (100 ≤ kd ∧ kd < 108)) (hl : 0 ≤ len ∧ len < 2147483648) (h1 : va_K D zCl tys s) (h2 : ∀ n, n ∈ L ↔ zK h n ≠ 0) (h3 : ∀ n ∈ L, 100 ≤ zK h n → (dA (zK h n - 100), zAt (zK h n - 100)) ∈ tys) (h9 : 100 ≤ kd → (dA (kd - 100), zAt (kd - 100)) ∈ tys) (hE : zEn dA (zad ad n q) (nw h n kd len) n = E)
    (hP1 : va_P D zCl (zW dA ad h L ++ [(q, E)]) H1) (hD1 : va_D A (zW dA ad h L ++ [(q, E)])) : zP s D dA A (zad ad n q) (nw h n kd len) H1 := by
  have hnL : n ∉ L := fun y => (h2 n).mp y hK
  rw [zW_push (ad' := zad ad n q) (h' := nw h n kd len) (n := n) (if_pos rfl) hE (fun m hm => ⟨if_neg (fun (y : m = n) => hnL (y ▸ hm)), zEn_nw g hn hK (fun (y : m = n) => hnL (y ▸ hm))⟩)] at hP1 hD1
  refine ⟨zG_nw g hn hkd hkr hl, L ++ [n], tys, h1, fun m => ?_, fun m hm => ?_, hP1, hD1⟩
  · rw [nw_K, List.mem_append, List.mem_singleton]
    by_cases e : m = n
    · rw [if_pos e]
      exact ⟨fun _ => hkd, fun _ => Or.inr e⟩
    · rw [if_neg e]
      exact ⟨fun y => (h2 m).mp (y.resolve_right e), fun y => Or.inl ((h2 m).mpr y)⟩
  · rw [nw_K]
    by_cases e : m = n
    · rw [if_pos e]
      exact h9
    · rw [if_neg e]
      exact h3 m (((List.mem_append.mp hm).resolve_right (fun y => e (List.mem_singleton.mp y))))
theorem zdef {ad : Nat → Nat} {h : zH} {ty : FieldType} {i n kd : Nat} {len : Int} (ht : zIs ty ≠ 3) : defaultValue ty = zFv ad (nw h n kd len) ty i n := by
  have e1 : zf (nw h n kd len) i n = 0 := if_pos rfl
  have e2 : zr (nw h n kd len) i n = none := if_pos rfl
  have e3 : zl (nw h n kd len) i n = 0 := if_pos rfl
  cases ty <;> first | (exact absurd rfl ht) | (unfold zFv; rw [e1]; rfl) | (unfold zFv; rw [e2]; rfl) | (unfold zFv; rw [e3]; rfl)
theorem zIs3 (ci : Nat) (h : ci < 10) : ∀ k, k < zFn ci → zIs (zTy ci k) ≠ 3 := by
  match ci, h with
  | 0, _ => decide +kernel
  | 1, _ => decide +kernel
  | 2, _ => decide +kernel
  | 3, _ => decide +kernel
  | 4, _ => decide +kernel
  | 5, _ => decide +kernel
  | 6, _ => decide +kernel
  | 7, _ => decide +kernel
  | 8, _ => decide +kernel
  | 9, _ => decide +kernel
theorem e_new {l : Launch} {Y : zM} {Q : zO → zH → Prop} {k n pc : Nat} {ls st : List zV} {h : zH} {idx ci : Nat} (a : Nat) (d : decode (zMc Y) pc = .ok (.new idx, 3)) (hci : ci < 10) (w1 : Cond.classLink (zMy Y).cls idx (zCn ci) ∈ zT) (w2 : Cond.instantiable (zCn ci) (zFn ci) ∈ zT) (w3 : Cond.initialized (zCn ci) ∈ zT) (ha : 1 < a) (hK : zK h a = 0) (hk : k + 1 ≤ (zMr Y).cells) (hn : n + zFn ci ≤ (zMr Y).slots) (K : AW l Y Q (k + 1) (n + zFn ci) (pc + 3) ls (zR (some a) :: st) (nw h a (ci + 1) 0)) : AW l Y Q k n pc ls st h := by
  intro p e s m args below meth c D dA ad0 h0 A C H locs ad lm hP hE hS hL o1 o2
  have hT := C.2.2.2.2.2.1
  obtain ⟨g, L, tys, h1, h2, h3, h4, h5⟩ := hP
  have hEn : ∀ q, zEn dA (zad ad a q) (nw h a (ci + 1) 0) a = .inr (ci, zOb ad (nw h a (ci + 1) 0) ci a) := by
    intro q
    rw [zEn_o (by rw [nw_K, if_pos rfl]) hci]
    congr 2
    apply List.ext_getElem?
    intro j
    by_cases hj : j < zFn ci
    · rw [zOb_at hj, zOb_at hj, ← zdef (zIs3 ci hci j hj), ← zdef (zIs3 ci hci j hj)]
    · rw [List.getElem?_eq_none (by rw [zOb_len]; omega), List.getElem?_eq_none (by rw [zOb_len]; omega)]
  refine va_new C.1 C.2.1 hT (zCl_ws ci hci) (zTy ci) (zCl_ty ci hci) C.2.2.2.2.1 (hT _ w1) (hT _ w2) (hT _ w3) h1 h4 h5 hS C.2.2.2.2.2.2.2.2.2.2.2.2.1 (zCl_at ci hci) (fs := zOb ad (nw h a (ci + 1) 0) ci a) (fun j hj => ?_) hk hn d (fun q H1 p1 p2 p3 => ?_)
  · unfold vp_V
    rw [List.getD_eq_getElem?_getD, zOb_at hj]
    exact zdef (zIs3 ci hci j hj)
  · have hE2 := zad_E (kd := ci + 1) (q := q) (len := 0) (ad := ad) ha hK
    have K := K p e s m args below meth c D dA ad0 h0 A C H1 locs (zad ad a q) lm (zP_made g (by omega) hK (by omega) (by omega) (by omega) h1 h2 h3 (by omega) (hEn q) p1 p2) (zE_tr hE hE2) p3 (zLO_E hE2 o1 hL) (fun v hv => zokv_E hE2 (o1 v hv)) (zo_cons (fun y hy => by cases hy; exact Or.inr (by rw [nw_K, if_pos rfl]; omega)) (fun v hv => zokv_E hE2 (o2 v hv)))
    rw [List.map_cons, zmap_E hE2 o2, zc_a] at K
    unfold zad at K
    rw [if_pos rfl] at K
    exact K
theorem zTK_row {s : State} {dA : Nat → ClassId} {t : Nat} {cA : ClassId} {D : va_G} {tys : List (ClassId × FieldType)} (hTK : zTK s dA) (hK : va_K D zCl (tys ++ [(cA, zAt t)]) s) : cA = dA t := by
  have h9 := (hK.2 tys.length (cA, zAt t) (by rw [List.getElem?_append_right (Nat.le_refl _), Nat.sub_self]; rfl)).2
  have key : s.vm.findClass ("[" ++ (zAt t).toString) = some cA := by
    cases hz : zAt t with
    | object C =>
      rw [hz] at h9
      obtain ⟨_, _, _, _, _, h4⟩ := h9
      exact h4
    | _ => rw [hz] at h9; exact h9
  exact (hTK t cA key).symm
theorem zrow_new {ad : Nat → Nat} {h : zH} {a kd t : Nat} {len : Int} (hl : 0 ≤ len) (ht : t < 4) : ∀ cA : ClassId, vp_cell cA (zRw ad (nw h a kd len) t a) = arrV cA len.toNat (fun _ => defaultValue (zAt t)) := by
  intro cA
  have e0 : zN (nw h a kd len) a = len := if_pos rfl
  have e1 : ∀ j, za (nw h a kd len) a j = 0 := fun j => if_pos rfl
  have e2 : ∀ j, zm (nw h a kd len) a j = 0 := fun j => if_pos rfl
  have e3 : ∀ j, zd (nw h a kd len) a j = 0 := fun j => if_pos rfl
  match t, ht with
  | 0, _ => simp only [zRw, e0, e1]; rfl
  | 1, _ => simp only [zRw, e0, e1]; rfl
  | 2, _ => simp only [zRw, e0, e2]; rfl
  | 3, _ => simp only [zRw, e0, e3]; rfl
theorem zRw_ad {h : zH} {a kd t : Nat} {len : Int} {ad ad' : Nat → Nat} : zRw ad' (nw h a kd len) t a = zRw ad (nw h a kd len) t a := by
  have e3 : ∀ j, zq (nw h a kd len) a j = none := fun j => if_pos rfl
  unfold zRw
  split <;> simp only [e3, Option.map_none]
theorem e_newa {l : Launch} {Y : zM} {Q : zO → zH → Prop} {k n pc : Nat} {ls st : List zV} {h : zH} {atype : ArrayType} {len : Int} (a t N : Nat) (d : decode (zMc Y) pc = .ok (.newarray atype, 2)) (ht : t < 4) (hty : newarray.typeOf atype = zAt t) (w1 : Cond.arrayClass (newarray.typeOf atype) ∈ zT) (hlen : len = (N : Int)) (hN : N ≤ 100000) (ha : 1 < a) (hK : zK h a = 0) (hk : k + 1 ≤ (zMr Y).cells) (hn : n + N ≤ (zMr Y).slots) (K : AW l Y Q (k + 1) (n + N) (pc + 2) ls (zR (some a) :: st) (nw h a (100 + t) len)) : AW l Y Q k n pc ls (zI len :: st) h := by
  intro p e s m args below meth c D dA ad0 h0 A C H locs ad lm hP hE hS hL o1 o2
  have hT := C.2.2.2.2.2.1
  obtain ⟨g, L, tys, h1, h2, h3, h4, h5⟩ := hP
  have hin : zin len := ⟨by omega, by omega⟩
  refine va_newa C.1 C.2.1 (hT _ w1) hty h1 h4 h5 hS C.2.2.2.2.2.2.2.2.2.2.2.2.1 (n := Int32.ofInt len) (N' := N) (a0 := zRw ad (nw h a (100 + t) len) t a) (fun cA => ?_) (fun y => ?_) ?_ ?_ hk hn d (fun q cA H1 p0 p1 p2 p3 => ?_)
  · rw [zrow_new (by omega) ht]
    congr 1
    omega
  · have := (zin_lt hin zin_0).mp y
    omega
  · rw [zcl (by omega) hin]
    omega
  · have : componentBytes (zAt t) ≤ 8 := by
      match t, ht with
      | 0, _ => decide
      | 1, _ => decide
      | 2, _ => decide
      | 3, _ => decide
    have := Nat.mul_le_mul hN this
    omega
  · have hcA : cA = dA t := zTK_row C.2.2.2.2.2.2.2.2.2.1 p0
    subst hcA
    have hE2 := zad_E (kd := 100 + t) (q := q) (len := len) (ad := ad) ha hK
    have hEn : zEn dA (zad ad a q) (nw h a (100 + t) len) a = .inl (dA t, zRw ad (nw h a (100 + t) len) t a) := by
      rw [zEn_r (t := t) (by rw [nw_K, if_pos rfl]), zRw_ad (ad := ad)]
    have K := K p e s m args below meth c D dA ad0 h0 A C H1 locs (zad ad a q) lm (zP_made g (by omega) hK (by omega) (by omega) (by omega) p0 h2 (fun m hm y => List.mem_append_left _ (h3 m hm y)) (fun _ => List.mem_append_right _ (by rw [Nat.add_sub_cancel_left]; exact List.mem_singleton.mpr rfl)) hEn p1 p2) (zE_tr hE hE2) p3 (zLO_E hE2 o1 hL) (fun v hv => zokv_E hE2 (o1 v hv)) (zo_cons (fun y hy => by cases hy; exact Or.inr (by rw [nw_K, if_pos rfl]; omega)) (fun v hv => zokv_E hE2 (zo_tl o2 v hv)))
    rw [List.map_cons, zmap_E hE2 (zo_tl o2), zc_a] at K
    unfold zad at K
    rw [if_pos rfl] at K
    exact K
theorem e_newq {l : Launch} {Y : zM} {Q : zO → zH → Prop} {k n pc : Nat} {ls st : List zV} {h : zH} {idx : Nat} {len : Int} {E : String} (a t N : Nat) (d : decode (zMc Y) pc = .ok (.anewarray idx, 3)) (ht4 : 4 ≤ t) (ht : t < 8) (hty : zAt t = .object E) (w1 : Cond.classLink (zMy Y).cls idx E ∈ zT) (w2 : E ∈ zOv) (hlen : len = (N : Int)) (hN : N ≤ 100000) (ha : 1 < a) (hK : zK h a = 0) (hk : k + 1 ≤ (zMr Y).cells) (hn : n + N ≤ (zMr Y).slots) (K : AW l Y Q (k + 1) (n + N) (pc + 3) ls (zR (some a) :: st) (nw h a (100 + t) len)) : AW l Y Q k n pc ls (zI len :: st) h := by
  intro p e s m args below meth c D dA ad0 h0 A C H locs ad lm hP hE hS hL o1 o2
  have hT := C.2.2.2.2.2.1
  obtain ⟨g, L, tys, h1, h2, h3, h4, h5⟩ := hP
  have hin : zin len := ⟨by omega, by omega⟩
  have hov : va_AO E s := C.2.2.2.2.2.2.2.2.2.2.2.1.2.2.2.2.2 E w2
  refine va_newq C.1 C.2.1 C.2.2.2.2.1 (hT _ w1) hov h1 h4 h5 hS C.2.2.2.2.2.2.2.2.2.2.2.2.1 (n := Int32.ofInt len) (N' := N) (fun y => ?_) ?_ ?_ hk hn d (fun q cA H1 p0 p1 p2 p3 => ?_)
  · have := (zin_lt hin zin_0).mp y
    omega
  · rw [zcl (by omega) hin]
    omega
  · omega
  · rw [← hty] at p0
    have hcA : cA = dA t := zTK_row C.2.2.2.2.2.2.2.2.2.1 p0
    subst hcA
    have hE2 := zad_E (kd := 100 + t) (q := q) (len := len) (ad := ad) ha hK
    have hEn : zEn dA (zad ad a q) (nw h a (100 + t) len) a = .inl (dA t, N, .inr (.inr (.inr (.inr (fun _ => none))))) := by
      rw [zEn_r (t := t) (by rw [nw_K, if_pos rfl]), zRw_q ht4]
      have e0 : zN (nw h a (100 + t) len) a = len := if_pos rfl
      have e3 : ∀ j, zq (nw h a (100 + t) len) a j = none := fun j => if_pos rfl
      simp only [e0, e3, Option.map_none]
      rw [hlen]
      rfl
    have K := K p e s m args below meth c D dA ad0 h0 A C H1 locs (zad ad a q) lm (zP_made g (by omega) hK (by omega) (by omega) (by omega) p0 h2 (fun m hm y => List.mem_append_left _ (h3 m hm y)) (fun _ => List.mem_append_right _ (by rw [Nat.add_sub_cancel_left]; exact List.mem_singleton.mpr rfl)) hEn p1 p2) (zE_tr hE hE2) p3 (zLO_E hE2 o1 hL) (fun v hv => zokv_E hE2 (o1 v hv)) (zo_cons (fun y hy => by cases hy; exact Or.inr (by rw [nw_K, if_pos rfl]; omega)) (fun v hv => zokv_E hE2 (zo_tl o2 v hv)))
    rw [List.map_cons, zmap_E hE2 (zo_tl o2), zc_a] at K
    unfold zad at K
    rw [if_pos rfl] at K
    exact K
theorem e_cast {l : Launch} {Y : zM} {Q : zO → zH → Prop} {k n pc : Nat} {ls st : List zV} {h : zH} {idx b cb : Nat} (d : decode (zMc Y) pc = .ok (.checkcast idx, 3)) (w1 : Cond.classLink (zMy Y).cls idx (zCn cb) ∈ zT) (hcb : cb < 10) (hK : zK h b = cb + 1) (K : AW l Y Q k n (pc + 3) ls (zR (some b) :: st) h) : AW l Y Q k n pc ls (zR (some b) :: st) h := by
  intro p e s m args below meth c D dA ad0 h0 A C H locs ad lm hP hE hS hL o1 o2
  have hT := C.2.2.2.2.2.1
  have K := K p e s m args below meth c D dA ad0 h0 A C H locs ad lm hP hE hS hL o1 o2
  obtain ⟨L, tys, q0, h1, h2, h3, h4, h5, hq⟩ := zP_at hP (n := b) (by rw [hK]; omega)
  have hrecv := va_recv h1 h4 (zCl_at cb hcb) ((zW_at (dA := dA) (ad := ad) (h := h) hq).trans (by rw [zEn_o hK hcb]))
  exact va_castS C.1 C.2.1 C.2.2.2.2.1 (hT _ w1) (h1.1 cb _ (zCl_at cb hcb)).2 hrecv d K
theorem e_max {l : Launch} {Y : zM} {Q : zO → zH → Prop} {k n pc : Nat} {ls st : List zV} {h : zH} {idx : Nat} {a b : Int} (d : decode (zMc Y) pc = .ok (.invokestatic idx, 3)) (w1 : Cond.methodLink (zMy Y).cls idx Lib.Math.max.name ∈ zT) (w2 : Cond.static Lib.Math.max.name ∈ zT) (w3 : Cond.initialized "java/lang/Math" ∈ zT) (w4 : Cond.code Lib.Math.max.name Lib.Math.max.code 2 (some .int) ∈ zT) (hr : st.length ≤ 4) (hf : 1 ≤ (zMr Y).frames) (hlo : 21 ≤ (zMr Y).locals) (hk : k ≤ (zMr Y).cells) (hn : n ≤ (zMr Y).slots) (ha : zin a) (hbb : zin b) (K : AW l Y Q k n (pc + 3) ls (zI (if a < b then b else a) :: st) h) : AW l Y Q k n pc ls (zI b :: zI a :: st) h := by
  intro p e s m args below meth c D dA ad0 h0 A C H locs ad lm hP hE hS hL o1 o2
  have hT := C.2.2.2.2.2.1
  have K := K p e s m args below meth c D dA ad0 h0 A C H locs ad lm hP hE hS hL o1 (zo_cons trivial (zo_tl (zo_tl o2)))
  refine va_mmax C.1 C.2.1 (by rw [C.2.2.2.1]; exact hL.1.symm) C.2.2.2.2.1 (hT _ w1) (hT _ w2) (hT _ w3) (hT _ w4) hf (by have := zcat_rest (ad := ad) hr; omega) hk hn d ?_
  rw [show (if Int32.ofInt a < Int32.ofInt b then Int32.ofInt b else Int32.ofInt a) = Int32.ofInt (if a < b then b else a) by
    by_cases e : a < b
    · rw [if_pos e, if_pos ((zin_lt ha hbb).mpr e)]
    · rw [if_neg e, if_neg (fun y => e ((zin_lt ha hbb).mp y))]]
  exact K
theorem e_min {l : Launch} {Y : zM} {Q : zO → zH → Prop} {k n pc : Nat} {ls st : List zV} {h : zH} {idx : Nat} {a b : Int} (d : decode (zMc Y) pc = .ok (.invokestatic idx, 3)) (w1 : Cond.methodLink (zMy Y).cls idx Lib.Math.min.name ∈ zT) (w2 : Cond.static Lib.Math.min.name ∈ zT) (w3 : Cond.initialized "java/lang/Math" ∈ zT) (w4 : Cond.code Lib.Math.min.name Lib.Math.min.code 2 (some .int) ∈ zT) (hr : st.length ≤ 4) (hf : 1 ≤ (zMr Y).frames) (hlo : 21 ≤ (zMr Y).locals) (hk : k ≤ (zMr Y).cells) (hn : n ≤ (zMr Y).slots) (ha : zin a) (hbb : zin b) (K : AW l Y Q k n (pc + 3) ls (zI (if b < a then b else a) :: st) h) : AW l Y Q k n pc ls (zI b :: zI a :: st) h := by
  intro p e s m args below meth c D dA ad0 h0 A C H locs ad lm hP hE hS hL o1 o2
  have hT := C.2.2.2.2.2.1
  have K := K p e s m args below meth c D dA ad0 h0 A C H locs ad lm hP hE hS hL o1 (zo_cons trivial (zo_tl (zo_tl o2)))
  refine va_mmin C.1 C.2.1 (by rw [C.2.2.2.1]; exact hL.1.symm) C.2.2.2.2.1 (hT _ w1) (hT _ w2) (hT _ w3) (hT _ w4) hf (by have := zcat_rest (ad := ad) hr; omega) hk hn d ?_
  rw [show (if Int32.ofInt b < Int32.ofInt a then Int32.ofInt b else Int32.ofInt a) = Int32.ofInt (if b < a then b else a) by
    by_cases e : b < a
    · rw [if_pos e, if_pos ((zin_lt hbb ha).mpr e)]
    · rw [if_neg e, if_neg (fun y => e ((zin_lt hbb ha).mp y))]]
  exact K
