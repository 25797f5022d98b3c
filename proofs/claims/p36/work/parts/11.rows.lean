theorem zin_lt {a b : Int} (ha : zin a) (hb : zin b) : Int32.ofInt a < Int32.ofInt b ↔ a < b := by
  rw [Int32.lt_iff_toInt_lt, Int32.toInt_ofInt_of_le (by have := ha.1; omega) (by have := ha.2; omega), Int32.toInt_ofInt_of_le (by have := hb.1; omega) (by have := hb.2; omega)]
theorem zin_le {a b : Int} (ha : zin a) (hb : zin b) : Int32.ofInt a ≤ Int32.ofInt b ↔ a ≤ b := by
  rw [Int32.le_iff_toInt_le, Int32.toInt_ofInt_of_le (by have := ha.1; omega) (by have := ha.2; omega), Int32.toInt_ofInt_of_le (by have := hb.1; omega) (by have := hb.2; omega)]
theorem zin_eq {a b : Int} (ha : zin a) (hb : zin b) : Int32.ofInt a = Int32.ofInt b ↔ a = b := by
  rw [← Int32.toInt_inj, Int32.toInt_ofInt_of_le (by have := ha.1; omega) (by have := ha.2; omega), Int32.toInt_ofInt_of_le (by have := hb.1; omega) (by have := hb.2; omega)]
theorem zin_0 : zin 0 := by unfold zin; omega
theorem zo_cons {h : zH} {v : zV} {st : List zV} (a : zokv h v) (b : ∀ w ∈ st, zokv h w) : ∀ w ∈ v :: st, zokv h w := List.forall_mem_cons.mpr ⟨a, b⟩
theorem zo_tl {h : zH} {v : zV} {st : List zV} (b : ∀ w ∈ v :: st, zokv h w) : ∀ w ∈ st, zokv h w := (List.forall_mem_cons.mp b).2
theorem zo_hd {h : zH} {v : zV} {st : List zV} (b : ∀ w ∈ v :: st, zokv h w) : zokv h v := (List.forall_mem_cons.mp b).1
theorem zok_none {h : zH} : zok h none := fun _ h => by cases h
theorem zo_at {h : zH} {ls : List zV} {i : Nat} {v : zV} (b : ∀ w ∈ ls, zokv h w) (hl : ls[i]? = some v) : zokv h v := b v (List.mem_of_getElem? hl)
theorem zLO_at {ad : Nat → Nat} {ls : List zV} {lm : Array Slot} {nL i : Nat} {v : zV} (h : zLO ad ls lm nL) (hl : ls[i]? = some v) (hv : v ≠ zX) : lm[i]? = some (.val (zc ad v)) := h.2.2 i v hl hv
theorem zne_I {z : Int} : zI z ≠ zX := by intro h; cases h
theorem zne_R {r : Option Nat} : zR r ≠ zX := by intro h; cases h
/-- of one word -/
def z1 : zV → Bool
  | .inr (.inr (.inl _)) => false
  | .inr (.inr (.inr (.inr (.inl _)))) => false
  | _ => true
theorem z1_cat {ad : Nat → Nat} {v : zV} (h : z1 v = true) : (zc ad v).category = 1 := by
  rcases v with z | r | z | u | u | u
  · rfl
  · show (va_rf (r.map ad)).category = 1
    cases r <;> rfl
  · cases h
  · rfl
  · cases h
  · cases u <;> rfl
/-- nothing of two words just below place i -/
def zlow (ls : List zV) (i : Nat) : Bool := match i with
  | 0 => true
  | j + 1 => match ls[j]? with
    | some v => z1 v
    | none => true
def zlp (ad : Nat → Nat) (i : Nat) : Option zV → Option (Nat × Value)
  | some (Sum.inr (Sum.inr (Sum.inr (Sum.inr (Sum.inr false))))) => none
  | some v => some (i, zc ad v)
  | none => none
def zls (ad : Nat → Nat) (ls : List zV) : List (Nat × Value) := (List.range ls.length).filterMap (fun i => zlp ad i ls[i]?)
theorem zls_mem {ad : Nat → Nat} {ls : List zV} {i : Nat} {v : zV} (hl : ls[i]? = some v) (hv : v ≠ zX) : (i, zc ad v) ∈ zls ad ls := by
  refine List.mem_filterMap.mpr ⟨i, List.mem_range.mpr (List.getElem?_eq_some_iff.mp hl).1, ?_⟩
  rw [hl]
  rcases v with z | r | z | u | u | u
  · rfl
  · rfl
  · rfl
  · rfl
  · rfl
  · cases u
    · exact absurd rfl hv
    · rfl
theorem zLO_has {ad : Nat → Nat} {ls : List zV} {lm : Array Slot} {nL : Nat} (h : zLO ad ls lm nL) : lv_has lm nL (zls ad ls) := by
  refine ⟨h.1, h.2.1, fun q hq => ?_⟩
  obtain ⟨i, -, hi⟩ := List.mem_filterMap.mp hq
  cases hl : ls[i]? with
  | none => rw [hl] at hi; cases hi
  | some v =>
    rw [hl] at hi
    rcases v with z | r | z | u | u | u
    · cases hi; exact h.2.2 i _ hl zne_I
    · cases hi; exact h.2.2 i _ hl zne_R
    · cases hi; exact h.2.2 i _ hl (by intro z; cases z)
    · cases hi; exact h.2.2 i _ hl (by intro z; cases z)
    · cases hi; exact h.2.2 i _ hl (by intro z; cases z)
    · cases u
      · cases hi
      · cases hi; exact h.2.2 i _ hl (by intro z; cases z)
theorem zLO_set {ad : Nat → Nat} {ls : List zV} {lm : Array Slot} {nL i : Nat} {v : zV} {w : Value} (hlow : zlow ls i = true) (hv : zc ad v = w) (h : lv_has lm nL ((i, w) :: (zls ad ls).filter (fun q => !(q.1 == i) && !(q.1 + 1 == i && q.2.category == 2)))) : zLO ad (ls.set i v) lm nL := by
  refine ⟨h.1, h.2.1, fun j u hj hu => ?_⟩
  rw [List.getElem?_set] at hj
  by_cases e : i = j
  · subst e
    rw [if_pos rfl] at hj
    split at hj
    · cases hj
      rw [hv]
      exact h.2.2 (i, w) List.mem_cons_self
    · cases hj
  · rw [if_neg e] at hj
    refine h.2.2 (j, zc ad u) (List.mem_cons_of_mem _ (List.mem_filter.mpr ⟨zls_mem hj hu, ?_⟩))
    have e1 : (j == i) = false := by simp; omega
    have e2 : (j + 1 == i && (zc ad u).category == 2) = false := by
      by_cases e3 : j + 1 = i
      · subst e3
        have h1 : z1 u = true := by
          have := hlow
          simp only [zlow, hj] at this
          exact this
        rw [z1_cat h1]
        simp
      · simp [e3]
    simp only [e1, e2, Bool.not_false, Bool.and_self]
theorem zo_set {h : zH} {ls : List zV} {i : Nat} {v : zV} (a : zokv h v) (b : ∀ w ∈ ls, zokv h w) : ∀ w ∈ ls.set i v, zokv h w := fun w hw => by
  rcases List.mem_or_eq_of_mem_set hw with h1 | h1
  · exact b w h1
  · rw [h1]; exact a
theorem zP_inj {s : State} {D : va_G} {dA : Nat → ClassId} {A : Nat → Prop} {ad : Nat → Nat} {h : zH} {H : Heap} (hP : zP s D dA A ad h H) (h0 : ¬ A (ad 0)) {r t : Option Nat} (hr : zok h r) (ht : zok h t) : r.map ad = t.map ad ↔ r = t := by
  obtain ⟨-, L, tys, -, hL, -, -, hD⟩ := hP
  have key : ∀ n : Nat, zK h n ≠ 0 → ∃ i : Nat, (zW dA ad h L)[i]? = some (ad n, zEn dA ad h n) ∧ L[i]? = some n := by
    intro n hn
    obtain ⟨i, hi⟩ := List.getElem?_of_mem ((hL n).mpr hn)
    exact ⟨i, by rw [zW, List.getElem?_map, hi]; rfl, hi⟩
  constructor
  · intro e
    cases r with
    | none => cases t with
      | none => rfl
      | some b => cases e
    | some a => cases t with
      | none => cases e
      | some b =>
        have e : ad a = ad b := Option.some.inj e
        rcases hr a rfl with ha | ha <;> rcases ht b rfl with hb | hb
        · rw [ha, hb]
        · obtain ⟨i, hi, -⟩ := key b hb
          exact absurd (by have := hD.2 i _ hi; rwa [← e, ha] at this) h0
        · obtain ⟨i, hi, -⟩ := key a ha
          exact absurd (by have := hD.2 i _ hi; rwa [e, hb] at this) h0
        · obtain ⟨i, hi, ei⟩ := key a ha
          obtain ⟨j, hj, ej⟩ := key b hb
          have := hD.1 i j _ _ hi hj e
          subst this
          rw [← Option.some.inj (ei.symm.trans ej)]
  · intro e; rw [e]
theorem zS_out {A : Nat → Prop} {e0 : Nat} {U : State} {H : Heap} (h : zS A e0 U H) : ¬ A e0 := h.2.2.2.1.out

theorem e_iconst {l : Launch} {Y : zM} {Q : zO → zH → Prop} {k n pc : Nat} {ls st : List zV} {h : zH} {i : Int} (d : decode (zMc Y) pc = .ok (.iconst i, 1)) (K : AW l Y Q k n (pc + 1) ls (zI i :: st) h) : AW l Y Q k n pc ls st h := by
  intro p e s m args below meth c D dA ad0 h0 A C H locs ad lm hP hE hS hL o1 o2
  have hx := C.1
  have hb := C.2.1
  exact lv_iconst hx hb d rfl (K p e s m args below meth c D dA ad0 h0 A C H locs ad lm hP hE hS hL o1 (zo_cons trivial o2))
theorem e_bipush {l : Launch} {Y : zM} {Q : zO → zH → Prop} {k n pc : Nat} {ls st : List zV} {h : zH} {i : Int} (d : decode (zMc Y) pc = .ok (.bipush i, 2)) (hi : (Int8.ofInt i).toInt32 = Int32.ofInt i) (K : AW l Y Q k n (pc + 2) ls (zI i :: st) h) : AW l Y Q k n pc ls st h := by
  intro p e s m args below meth c D dA ad0 h0 A C H locs ad lm hP hE hS hL o1 o2
  have hx := C.1
  have hb := C.2.1
  exact lv_bipush hx hb d hi (K p e s m args below meth c D dA ad0 h0 A C H locs ad lm hP hE hS hL o1 (zo_cons trivial o2))
theorem e_sipush {l : Launch} {Y : zM} {Q : zO → zH → Prop} {k n pc : Nat} {ls st : List zV} {h : zH} {i : Int} (d : decode (zMc Y) pc = .ok (.sipush i, 3)) (hi : (Int16.ofInt i).toInt32 = Int32.ofInt i) (K : AW l Y Q k n (pc + 3) ls (zI i :: st) h) : AW l Y Q k n pc ls st h := by
  intro p e s m args below meth c D dA ad0 h0 A C H locs ad lm hP hE hS hL o1 o2
  have hx := C.1
  have hb := C.2.1
  exact lv_sipush hx hb d hi (K p e s m args below meth c D dA ad0 h0 A C H locs ad lm hP hE hS hL o1 (zo_cons trivial o2))
theorem e_lconst {l : Launch} {Y : zM} {Q : zO → zH → Prop} {k n pc : Nat} {ls st : List zV} {h : zH} {i : Fin 2} {z : Int} (d : decode (zMc Y) pc = .ok (.lconst i, 1)) (hi : Int64.ofNat (i : Nat) = Int64.ofInt z) (K : AW l Y Q k n (pc + 1) ls (zL z :: st) h) : AW l Y Q k n pc ls st h := by
  intro p e s m args below meth c D dA ad0 h0 A C H locs ad lm hP hE hS hL o1 o2
  have hx := C.1
  have hb := C.2.1
  exact lv_lconst hx hb d hi (K p e s m args below meth c D dA ad0 h0 A C H locs ad lm hP hE hS hL o1 (zo_cons trivial o2))
theorem e_null {l : Launch} {Y : zM} {Q : zO → zH → Prop} {k n pc : Nat} {ls st : List zV} {h : zH} (d : decode (zMc Y) pc = .ok (.aconst_null, 1)) (K : AW l Y Q k n (pc + 1) ls (zR none :: st) h) : AW l Y Q k n pc ls st h := by
  intro p e s m args below meth c D dA ad0 h0 A C H locs ad lm hP hE hS hL o1 o2
  have hx := C.1
  have hb := C.2.1
  exact lv_null hx hb d (K p e s m args below meth c D dA ad0 h0 A C H locs ad lm hP hE hS hL o1 (zo_cons zok_none o2))
theorem e_iload_n {l : Launch} {Y : zM} {Q : zO → zH → Prop} {k n pc : Nat} {ls st : List zV} {h : zH} {i : Fin 4} {j : Nat} {z : Int} (d : decode (zMc Y) pc = .ok (.iload_n i, 1)) (hi : (i : Nat) = j) (hl : ls[j]? = some (zI z)) (K : AW l Y Q k n (pc + 1) ls (zI z :: st) h) : AW l Y Q k n pc ls st h := by
  intro p e s m args below meth c D dA ad0 h0 A C H locs ad lm hP hE hS hL o1 o2
  have hx := C.1
  have hb := C.2.1
  exact lv_iload_n hx hb d hi (zLO_at hL hl zne_I) (K p e s m args below meth c D dA ad0 h0 A C H locs ad lm hP hE hS hL o1 (zo_cons trivial o2))
theorem e_iload {l : Launch} {Y : zM} {Q : zO → zH → Prop} {k n pc : Nat} {ls st : List zV} {h : zH} {j : Nat} {z : Int} (d : decode (zMc Y) pc = .ok (.iload j, 2)) (hl : ls[j]? = some (zI z)) (K : AW l Y Q k n (pc + 2) ls (zI z :: st) h) : AW l Y Q k n pc ls st h := by
  intro p e s m args below meth c D dA ad0 h0 A C H locs ad lm hP hE hS hL o1 o2
  have hx := C.1
  have hb := C.2.1
  exact lv_iload hx hb d (zLO_at hL hl zne_I) (K p e s m args below meth c D dA ad0 h0 A C H locs ad lm hP hE hS hL o1 (zo_cons trivial o2))
theorem e_aload_n {l : Launch} {Y : zM} {Q : zO → zH → Prop} {k n pc : Nat} {ls st : List zV} {h : zH} {i : Fin 4} {j : Nat} {r : Option Nat} (d : decode (zMc Y) pc = .ok (.aload_n i, 1)) (hi : (i : Nat) = j) (hl : ls[j]? = some (zR r)) (K : AW l Y Q k n (pc + 1) ls (zR r :: st) h) : AW l Y Q k n pc ls st h := by
  intro p e s m args below meth c D dA ad0 h0 A C H locs ad lm hP hE hS hL o1 o2
  have hx := C.1
  have hb := C.2.1
  have K := K p e s m args below meth c D dA ad0 h0 A C H locs ad lm hP hE hS hL o1 (zo_cons (zo_at o1 hl) o2)
  have hl2 := zLO_at hL hl zne_R
  cases r with
  | none => exact lv_aload_nN hx hb d hi hl2 K
  | some a => exact lv_aload_n hx hb d hi hl2 K
theorem e_aload {l : Launch} {Y : zM} {Q : zO → zH → Prop} {k n pc : Nat} {ls st : List zV} {h : zH} {j : Nat} {r : Option Nat} (d : decode (zMc Y) pc = .ok (.aload j, 2)) (hl : ls[j]? = some (zR r)) (K : AW l Y Q k n (pc + 2) ls (zR r :: st) h) : AW l Y Q k n pc ls st h := by
  intro p e s m args below meth c D dA ad0 h0 A C H locs ad lm hP hE hS hL o1 o2
  have hx := C.1
  have hb := C.2.1
  have K := K p e s m args below meth c D dA ad0 h0 A C H locs ad lm hP hE hS hL o1 (zo_cons (zo_at o1 hl) o2)
  have hl2 := zLO_at hL hl zne_R
  cases r with
  | none => exact lv_aloadN hx hb d hl2 K
  | some a => exact lv_aload hx hb d hl2 K
theorem e_istore_n {l : Launch} {Y : zM} {Q : zO → zH → Prop} {k n pc : Nat} {ls st : List zV} {h : zH} {i : Fin 4} {j : Nat} {z : Int} {ls2 : List zV} (d : decode (zMc Y) pc = .ok (.istore_n i, 1)) (hi : (i : Nat) = j) (hn : j < zMn Y) (hw : zlow ls j = true) (hs : ls.set j (zI z) = ls2) (K : AW l Y Q k n (pc + 1) ls2 st h) : AW l Y Q k n pc ls (zI z :: st) h := by
  intro p e s m args below meth c D dA ad0 h0 A C H locs ad lm hP hE hS hL o1 o2
  have hx := C.1
  have hb := C.2.1
  subst hs
  exact lv_istore_n hx hb d hi (zLO_has hL) hn rfl (fun lm2 h2 => K p e s m args below meth c D dA ad0 h0 A C H locs ad lm2 hP hE hS (zLO_set hw rfl h2) (zo_set trivial o1) (zo_tl o2))
theorem e_istore {l : Launch} {Y : zM} {Q : zO → zH → Prop} {k n pc : Nat} {ls st : List zV} {h : zH} {j : Nat} {z : Int} {ls2 : List zV} (d : decode (zMc Y) pc = .ok (.istore j, 2)) (hn : j < zMn Y) (hw : zlow ls j = true) (hs : ls.set j (zI z) = ls2) (K : AW l Y Q k n (pc + 2) ls2 st h) : AW l Y Q k n pc ls (zI z :: st) h := by
  intro p e s m args below meth c D dA ad0 h0 A C H locs ad lm hP hE hS hL o1 o2
  have hx := C.1
  have hb := C.2.1
  subst hs
  exact lv_istore hx hb d (zLO_has hL) hn rfl (fun lm2 h2 => K p e s m args below meth c D dA ad0 h0 A C H locs ad lm2 hP hE hS (zLO_set hw rfl h2) (zo_set trivial o1) (zo_tl o2))
theorem e_astore_n {l : Launch} {Y : zM} {Q : zO → zH → Prop} {k n pc : Nat} {ls st : List zV} {h : zH} {i : Fin 4} {j : Nat} {r : Option Nat} {ls2 : List zV} (d : decode (zMc Y) pc = .ok (.astore_n i, 1)) (hi : (i : Nat) = j) (hn : j < zMn Y) (hw : zlow ls j = true) (hs : ls.set j (zR r) = ls2) (K : AW l Y Q k n (pc + 1) ls2 st h) : AW l Y Q k n pc ls (zR r :: st) h := by
  intro p e s m args below meth c D dA ad0 h0 A C H locs ad lm hP hE hS hL o1 o2
  have hx := C.1
  have hb := C.2.1
  subst hs
  have o3 : zokv h (zR r) := zo_hd o2
  cases r with
  | none => exact lv_astore_nN hx hb d hi (zLO_has hL) hn rfl (fun lm2 h2 => K p e s m args below meth c D dA ad0 h0 A C H locs ad lm2 hP hE hS (zLO_set hw rfl h2) (zo_set o3 o1) (zo_tl o2))
  | some a => exact lv_astore_n hx hb d hi (zLO_has hL) hn rfl (fun lm2 h2 => K p e s m args below meth c D dA ad0 h0 A C H locs ad lm2 hP hE hS (zLO_set hw rfl h2) (zo_set o3 o1) (zo_tl o2))
theorem e_astore {l : Launch} {Y : zM} {Q : zO → zH → Prop} {k n pc : Nat} {ls st : List zV} {h : zH} {j : Nat} {r : Option Nat} {ls2 : List zV} (d : decode (zMc Y) pc = .ok (.astore j, 2)) (hn : j < zMn Y) (hw : zlow ls j = true) (hs : ls.set j (zR r) = ls2) (K : AW l Y Q k n (pc + 2) ls2 st h) : AW l Y Q k n pc ls (zR r :: st) h := by
  intro p e s m args below meth c D dA ad0 h0 A C H locs ad lm hP hE hS hL o1 o2
  have hx := C.1
  have hb := C.2.1
  subst hs
  have o3 : zokv h (zR r) := zo_hd o2
  cases r with
  | none => exact lv_astoreN hx hb d (zLO_has hL) hn rfl (fun lm2 h2 => K p e s m args below meth c D dA ad0 h0 A C H locs ad lm2 hP hE hS (zLO_set hw rfl h2) (zo_set o3 o1) (zo_tl o2))
  | some a => exact lv_astore hx hb d (zLO_has hL) hn rfl (fun lm2 h2 => K p e s m args below meth c D dA ad0 h0 A C H locs ad lm2 hP hE hS (zLO_set hw rfl h2) (zo_set o3 o1) (zo_tl o2))
theorem zls_idx {ad : Nat → Nat} {ls : List zV} {j : Nat} {v : zV} (hl : ls[j]? = some v) (hv : v ≠ zX) : ∃ q : Nat, (zls ad ls)[q]? = some (j, zc ad v) := List.getElem?_of_mem (zls_mem hl hv)
theorem e_iinc {l : Launch} {Y : zM} {Q : zO → zH → Prop} {k n pc : Nat} {ls st : List zV} {h : zH} {j : Nat} {i z w : Int} {ls2 : List zV} (d : decode (zMc Y) pc = .ok (.iinc j i, 3)) (hn : j < zMn Y) (hw : zlow ls j = true) (hl : ls[j]? = some (zI z)) (hz : z + i = w) (hs : ls.set j (zI w) = ls2) (K : AW l Y Q k n (pc + 3) ls2 st h) : AW l Y Q k n pc ls st h := by
  intro p e s m args below meth c D dA ad0 h0 A C H locs ad lm hP hE hS hL o1 o2
  have hx := C.1
  have hb := C.2.1
  subst hs
  subst hz
  obtain ⟨q, hq⟩ := zls_idx (ad := ad) hl zne_I
  exact lv_iinc hx hb d (zLO_has hL) hq (Int32.ofInt_add z i).symm hn rfl (fun lm2 h2 => K p e s m args below meth c D dA ad0 h0 A C H locs ad lm2 hP hE hS (zLO_set hw rfl h2) (zo_set trivial o1) o2)
theorem e_iadd {l : Launch} {Y : zM} {Q : zO → zH → Prop} {k n pc : Nat} {ls st : List zV} {h : zH} {a b : Int} (d : decode (zMc Y) pc = .ok (.iadd, 1)) (K : AW l Y Q k n (pc + 1) ls (zI (a + b) :: st) h) : AW l Y Q k n pc ls (zI b :: zI a :: st) h := by
  intro p e s m args below meth c D dA ad0 h0 A C H locs ad lm hP hE hS hL o1 o2
  have hx := C.1
  have hb := C.2.1
  have K := K p e s m args below meth c D dA ad0 h0 A C H locs ad lm hP hE hS hL o1 (zo_cons trivial (zo_tl (zo_tl o2)))
  refine lv_iadd hx hb d ?_
  rw [← Int32.ofInt_add]
  exact K
theorem e_isub {l : Launch} {Y : zM} {Q : zO → zH → Prop} {k n pc : Nat} {ls st : List zV} {h : zH} {a b : Int} (d : decode (zMc Y) pc = .ok (.isub, 1)) (K : AW l Y Q k n (pc + 1) ls (zI (a - b) :: st) h) : AW l Y Q k n pc ls (zI b :: zI a :: st) h := by
  intro p e s m args below meth c D dA ad0 h0 A C H locs ad lm hP hE hS hL o1 o2
  have hx := C.1
  have hb := C.2.1
  have K := K p e s m args below meth c D dA ad0 h0 A C H locs ad lm hP hE hS hL o1 (zo_cons trivial (zo_tl (zo_tl o2)))
  refine lv_isub hx hb d ?_
  rw [← Int32.ofInt_sub]
  exact K
theorem e_imul {l : Launch} {Y : zM} {Q : zO → zH → Prop} {k n pc : Nat} {ls st : List zV} {h : zH} {a b : Int} (d : decode (zMc Y) pc = .ok (.imul, 1)) (K : AW l Y Q k n (pc + 1) ls (zI (a * b) :: st) h) : AW l Y Q k n pc ls (zI b :: zI a :: st) h := by
  intro p e s m args below meth c D dA ad0 h0 A C H locs ad lm hP hE hS hL o1 o2
  have hx := C.1
  have hb := C.2.1
  have K := K p e s m args below meth c D dA ad0 h0 A C H locs ad lm hP hE hS hL o1 (zo_cons trivial (zo_tl (zo_tl o2)))
  refine lv_imul hx hb d ?_
  rw [← Int32.ofInt_mul]
  exact K
theorem zdiv {a b : Int} (ha : zin a) (h0 : 0 ≤ a) (hb : zin b) (h1 : 0 < b) : Int32.ofInt a / Int32.ofInt b = Int32.ofInt (a / b) := by
  have e1 : (Int32.minValue).toInt = -2147483648 := by decide
  have e2 : (Int32.maxValue).toInt = 2147483647 := by decide
  have h2 := ha.2
  have h3 := hb.2
  rw [← Int.tdiv_eq_ediv_of_nonneg h0]
  exact (Int32.ofInt_tdiv (by omega) (by omega) (by omega) (by omega)).symm
theorem e_idiv {l : Launch} {Y : zM} {Q : zO → zH → Prop} {k n pc : Nat} {ls st : List zV} {h : zH} {a b : Int} (d : decode (zMc Y) pc = .ok (.idiv, 1)) (ha : zin a) (ha0 : 0 ≤ a) (hbb : zin b) (h1 : 0 < b) (K : AW l Y Q k n (pc + 1) ls (zI (a / b) :: st) h) : AW l Y Q k n pc ls (zI b :: zI a :: st) h := by
  intro p e s m args below meth c D dA ad0 h0 A C H locs ad lm hP hE hS hL o1 o2
  have hx := C.1
  have hb := C.2.1
  have K := K p e s m args below meth c D dA ad0 h0 A C H locs ad lm hP hE hS hL o1 (zo_cons trivial (zo_tl (zo_tl o2)))
  refine lv_idiv hx hb d (fun z => ?_) ?_
  · have := (zin_eq hbb zin_0).mp z
    omega
  · rw [zdiv ha ha0 hbb h1]
    exact K
theorem e_irem {l : Launch} {Y : zM} {Q : zO → zH → Prop} {k n pc : Nat} {ls st : List zV} {h : zH} {a b : Int} (d : decode (zMc Y) pc = .ok (.irem, 1)) (ha : zin a) (ha0 : 0 ≤ a) (hbb : zin b) (h1 : 0 < b) (K : AW l Y Q k n (pc + 1) ls (zI (a % b) :: st) h) : AW l Y Q k n pc ls (zI b :: zI a :: st) h := by
  intro p e s m args below meth c D dA ad0 h0 A C H locs ad lm hP hE hS hL o1 o2
  have hx := C.1
  have hb := C.2.1
  have K := K p e s m args below meth c D dA ad0 h0 A C H locs ad lm hP hE hS hL o1 (zo_cons trivial (zo_tl (zo_tl o2)))
  refine lv_irem hx hb d (fun z => ?_) ?_
  · have := (zin_eq hbb zin_0).mp z
    omega
  · rw [zdiv ha ha0 hbb h1, ← Int32.ofInt_mul, ← Int32.ofInt_sub, show a - a / b * b = a % b by rw [Int.emod_def, Int.mul_comm b]]
    exact K
theorem e_iand {l : Launch} {Y : zM} {Q : zO → zH → Prop} {k n pc : Nat} {ls st : List zV} {h : zH} {a b c9 : Int} (d : decode (zMc Y) pc = .ok (.iand, 1)) (he : Int32.ofInt a &&& Int32.ofInt b = Int32.ofInt c9) (K : AW l Y Q k n (pc + 1) ls (zI c9 :: st) h) : AW l Y Q k n pc ls (zI b :: zI a :: st) h := by
  intro p e s m args below meth c D dA ad0 h0 A C H locs ad lm hP hE hS hL o1 o2
  have hx := C.1
  have hb := C.2.1
  have K := K p e s m args below meth c D dA ad0 h0 A C H locs ad lm hP hE hS hL o1 (zo_cons trivial (zo_tl (zo_tl o2)))
  refine lv_iand hx hb d ?_
  rw [he]
  exact K
theorem e_ior {l : Launch} {Y : zM} {Q : zO → zH → Prop} {k n pc : Nat} {ls st : List zV} {h : zH} {a b c9 : Int} (d : decode (zMc Y) pc = .ok (.ior, 1)) (he : Int32.ofInt a ||| Int32.ofInt b = Int32.ofInt c9) (K : AW l Y Q k n (pc + 1) ls (zI c9 :: st) h) : AW l Y Q k n pc ls (zI b :: zI a :: st) h := by
  intro p e s m args below meth c D dA ad0 h0 A C H locs ad lm hP hE hS hL o1 o2
  have hx := C.1
  have hb := C.2.1
  have K := K p e s m args below meth c D dA ad0 h0 A C H locs ad lm hP hE hS hL o1 (zo_cons trivial (zo_tl (zo_tl o2)))
  refine lv_ior hx hb d ?_
  rw [he]
  exact K
theorem e_ishl {l : Launch} {Y : zM} {Q : zO → zH → Prop} {k n pc : Nat} {ls st : List zV} {h : zH} {a b c9 : Int} (d : decode (zMc Y) pc = .ok (.ishl, 1)) (he : Int32.ofInt a <<< (Int32.ofInt b &&& 31) = Int32.ofInt c9) (K : AW l Y Q k n (pc + 1) ls (zI c9 :: st) h) : AW l Y Q k n pc ls (zI b :: zI a :: st) h := by
  intro p e s m args below meth c D dA ad0 h0 A C H locs ad lm hP hE hS hL o1 o2
  have hx := C.1
  have hb := C.2.1
  have K := K p e s m args below meth c D dA ad0 h0 A C H locs ad lm hP hE hS hL o1 (zo_cons trivial (zo_tl (zo_tl o2)))
  refine lv_ishl hx hb d ?_
  rw [he]
  exact K
theorem e_ishr {l : Launch} {Y : zM} {Q : zO → zH → Prop} {k n pc : Nat} {ls st : List zV} {h : zH} {a b c9 : Int} (d : decode (zMc Y) pc = .ok (.ishr, 1)) (he : Int32.ofInt a >>> (Int32.ofInt b &&& 31) = Int32.ofInt c9) (K : AW l Y Q k n (pc + 1) ls (zI c9 :: st) h) : AW l Y Q k n pc ls (zI b :: zI a :: st) h := by
  intro p e s m args below meth c D dA ad0 h0 A C H locs ad lm hP hE hS hL o1 o2
  have hx := C.1
  have hb := C.2.1
  have K := K p e s m args below meth c D dA ad0 h0 A C H locs ad lm hP hE hS hL o1 (zo_cons trivial (zo_tl (zo_tl o2)))
  refine lv_ishr hx hb d ?_
  rw [he]
  exact K
theorem zin_l {a : Int} (ha : zin a) : (Int32.ofInt a).toInt64 = Int64.ofInt a := by
  have e1 : (Int32.minValue).toInt = -2147483648 := by decide
  have e2 : (Int32.maxValue).toInt = 2147483647 := by decide
  exact Int32.toInt64_ofInt (by have := ha.1; omega) (by have := ha.2; omega)
theorem e_i2l {l : Launch} {Y : zM} {Q : zO → zH → Prop} {k n pc : Nat} {ls st : List zV} {h : zH} {a : Int} (d : decode (zMc Y) pc = .ok (.i2l, 1)) (ha : zin a) (K : AW l Y Q k n (pc + 1) ls (zL a :: st) h) : AW l Y Q k n pc ls (zI a :: st) h := by
  intro p e s m args below meth c D dA ad0 h0 A C H locs ad lm hP hE hS hL o1 o2
  have hx := C.1
  have hb := C.2.1
  exact lv_i2l hx hb d (zin_l ha) (K p e s m args below meth c D dA ad0 h0 A C H locs ad lm hP hE hS hL o1 (zo_cons trivial (zo_tl o2)))
theorem e_ladd {l : Launch} {Y : zM} {Q : zO → zH → Prop} {k n pc : Nat} {ls st : List zV} {h : zH} {a b : Int} (d : decode (zMc Y) pc = .ok (.ladd, 1)) (K : AW l Y Q k n (pc + 1) ls (zL (a + b) :: st) h) : AW l Y Q k n pc ls (zL b :: zL a :: st) h := by
  intro p e s m args below meth c D dA ad0 h0 A C H locs ad lm hP hE hS hL o1 o2
  have hx := C.1
  have hb := C.2.1
  have K := K p e s m args below meth c D dA ad0 h0 A C H locs ad lm hP hE hS hL o1 (zo_cons trivial (zo_tl (zo_tl o2)))
  refine lv_ladd hx hb d ?_
  rw [← Int64.ofInt_add]
  exact K
theorem e_i2c {l : Launch} {Y : zM} {Q : zO → zH → Prop} {k n pc : Nat} {ls st : List zV} {h : zH} {a b : Int} (d : decode (zMc Y) pc = .ok (.i2c, 1)) (he : ((Int32.ofInt a).toUInt32 % 65536).toInt32 = Int32.ofInt b) (K : AW l Y Q k n (pc + 1) ls (zI b :: st) h) : AW l Y Q k n pc ls (zI a :: st) h := by
  intro p e s m args below meth c D dA ad0 h0 A C H locs ad lm hP hE hS hL o1 o2
  have hx := C.1
  have hb := C.2.1
  exact lv_i2c hx hb d he (K p e s m args below meth c D dA ad0 h0 A C H locs ad lm hP hE hS hL o1 (zo_cons trivial (zo_tl o2)))
theorem e_dup {l : Launch} {Y : zM} {Q : zO → zH → Prop} {k n pc : Nat} {ls st : List zV} {h : zH} {v : zV} (d : decode (zMc Y) pc = .ok (.dup, 1)) (hv : z1 v = true) (K : AW l Y Q k n (pc + 1) ls (v :: v :: st) h) : AW l Y Q k n pc ls (v :: st) h := by
  intro p e s m args below meth c D dA ad0 h0 A C H locs ad lm hP hE hS hL o1 o2
  have hx := C.1
  have hb := C.2.1
  exact lv_dup hx hb d (z1_cat hv) (K p e s m args below meth c D dA ad0 h0 A C H locs ad lm hP hE hS hL o1 (zo_cons (zo_hd o2) o2))
theorem e_pop {l : Launch} {Y : zM} {Q : zO → zH → Prop} {k n pc : Nat} {ls st : List zV} {h : zH} {v : zV} (d : decode (zMc Y) pc = .ok (.pop, 1)) (hv : z1 v = true) (K : AW l Y Q k n (pc + 1) ls st h) : AW l Y Q k n pc ls (v :: st) h := by
  intro p e s m args below meth c D dA ad0 h0 A C H locs ad lm hP hE hS hL o1 o2
  have hx := C.1
  have hb := C.2.1
  exact lv_pop hx hb d (z1_cat hv) (K p e s m args below meth c D dA ad0 h0 A C H locs ad lm hP hE hS hL o1 (zo_tl o2))
theorem e_dup2 {l : Launch} {Y : zM} {Q : zO → zH → Prop} {k n pc : Nat} {ls st : List zV} {h : zH} {v w : zV} (d : decode (zMc Y) pc = .ok (.dup2, 1)) (hv : z1 v = true) (hw : z1 w = true) (K : AW l Y Q k n (pc + 1) ls (v :: w :: v :: w :: st) h) : AW l Y Q k n pc ls (v :: w :: st) h := by
  intro p e s m args below meth c D dA ad0 h0 A C H locs ad lm hP hE hS hL o1 o2
  have hx := C.1
  have hb := C.2.1
  exact lv_dup2_11 hx hb d (z1_cat hv) (z1_cat hw) (K p e s m args below meth c D dA ad0 h0 A C H locs ad lm hP hE hS hL o1 (zo_cons (zo_hd o2) (zo_cons (zo_hd (zo_tl o2)) o2)))
theorem e_dup_x1 {l : Launch} {Y : zM} {Q : zO → zH → Prop} {k n pc : Nat} {ls st : List zV} {h : zH} {v w : zV} (d : decode (zMc Y) pc = .ok (.dup_x1, 1)) (hv : z1 v = true) (hw : z1 w = true) (K : AW l Y Q k n (pc + 1) ls (v :: w :: v :: st) h) : AW l Y Q k n pc ls (v :: w :: st) h := by
  intro p e s m args below meth c D dA ad0 h0 A C H locs ad lm hP hE hS hL o1 o2
  have hx := C.1
  have hb := C.2.1
  exact lv_dup_x1 hx hb d (z1_cat hv) (z1_cat hw) (K p e s m args below meth c D dA ad0 h0 A C H locs ad lm hP hE hS hL o1 (zo_cons (zo_hd o2) (zo_cons (zo_hd (zo_tl o2)) (zo_cons (zo_hd o2) (zo_tl (zo_tl o2))))))
theorem e_goto {l : Launch} {Y : zM} {Q : zO → zH → Prop} {k n pc : Nat} {ls st : List zV} {h : zH} {off : Int} {tgt : Nat} (d : decode (zMc Y) pc = .ok (.goto off, 3)) (ht : (pc : Int) + off = (tgt : Int)) (K : AW l Y Q k n tgt ls st h) : AW l Y Q k n pc ls st h := by
  intro p e s m args below meth c D dA ad0 h0 A C H locs ad lm hP hE hS hL o1 o2
  have hx := C.1
  have hb := C.2.1
  exact lv_goto hx hb d ht (K p e s m args below meth c D dA ad0 h0 A C H locs ad lm hP hE hS hL o1 o2)
theorem e_if_eq {l : Launch} {Y : zM} {Q : zO → zH → Prop} {k n pc : Nat} {ls st : List zV} {h : zH} {a off : Int} {tgt : Nat} (d : decode (zMc Y) pc = .ok (.ifCond .eq off, 3)) (ht : (pc : Int) + off = (tgt : Int)) (hr : zin a) (kt : a = 0 → AW l Y Q k n tgt ls st h) (kf : ¬ a = 0 → AW l Y Q k n (pc + 3) ls st h) : AW l Y Q k n pc ls (zI a :: st) h := by
  intro p e s m args below meth c D dA ad0 h0 A C H locs ad lm hP hE hS hL o1 o2
  have hx := C.1
  have hb := C.2.1
  exact lv_if_eq hx hb d ht (fun z => (kt ((zin_eq hr zin_0).mp z)) p e s m args below meth c D dA ad0 h0 A C H locs ad lm hP hE hS hL o1 (zo_tl o2)) (fun z => (kf (fun y => z ((zin_eq hr zin_0).mpr y))) p e s m args below meth c D dA ad0 h0 A C H locs ad lm hP hE hS hL o1 (zo_tl o2))
theorem e_if_ne {l : Launch} {Y : zM} {Q : zO → zH → Prop} {k n pc : Nat} {ls st : List zV} {h : zH} {a off : Int} {tgt : Nat} (d : decode (zMc Y) pc = .ok (.ifCond .ne off, 3)) (ht : (pc : Int) + off = (tgt : Int)) (hr : zin a) (kt : ¬ a = 0 → AW l Y Q k n tgt ls st h) (kf : a = 0 → AW l Y Q k n (pc + 3) ls st h) : AW l Y Q k n pc ls (zI a :: st) h := by
  intro p e s m args below meth c D dA ad0 h0 A C H locs ad lm hP hE hS hL o1 o2
  have hx := C.1
  have hb := C.2.1
  exact lv_if_ne hx hb d ht (fun z => (kt (fun y => z ((zin_eq hr zin_0).mpr y))) p e s m args below meth c D dA ad0 h0 A C H locs ad lm hP hE hS hL o1 (zo_tl o2)) (fun z => (kf ((zin_eq hr zin_0).mp z)) p e s m args below meth c D dA ad0 h0 A C H locs ad lm hP hE hS hL o1 (zo_tl o2))
theorem e_if_lt {l : Launch} {Y : zM} {Q : zO → zH → Prop} {k n pc : Nat} {ls st : List zV} {h : zH} {a off : Int} {tgt : Nat} (d : decode (zMc Y) pc = .ok (.ifCond .lt off, 3)) (ht : (pc : Int) + off = (tgt : Int)) (hr : zin a) (kt : a < 0 → AW l Y Q k n tgt ls st h) (kf : ¬ a < 0 → AW l Y Q k n (pc + 3) ls st h) : AW l Y Q k n pc ls (zI a :: st) h := by
  intro p e s m args below meth c D dA ad0 h0 A C H locs ad lm hP hE hS hL o1 o2
  have hx := C.1
  have hb := C.2.1
  exact lv_if_lt hx hb d ht (fun z => (kt ((zin_lt hr zin_0).mp z)) p e s m args below meth c D dA ad0 h0 A C H locs ad lm hP hE hS hL o1 (zo_tl o2)) (fun z => (kf (fun y => z ((zin_lt hr zin_0).mpr y))) p e s m args below meth c D dA ad0 h0 A C H locs ad lm hP hE hS hL o1 (zo_tl o2))
theorem e_if_ge {l : Launch} {Y : zM} {Q : zO → zH → Prop} {k n pc : Nat} {ls st : List zV} {h : zH} {a off : Int} {tgt : Nat} (d : decode (zMc Y) pc = .ok (.ifCond .ge off, 3)) (ht : (pc : Int) + off = (tgt : Int)) (hr : zin a) (kt : 0 ≤ a → AW l Y Q k n tgt ls st h) (kf : ¬ 0 ≤ a → AW l Y Q k n (pc + 3) ls st h) : AW l Y Q k n pc ls (zI a :: st) h := by
  intro p e s m args below meth c D dA ad0 h0 A C H locs ad lm hP hE hS hL o1 o2
  have hx := C.1
  have hb := C.2.1
  exact lv_if_ge hx hb d ht (fun z => (kt ((zin_le zin_0 hr).mp z)) p e s m args below meth c D dA ad0 h0 A C H locs ad lm hP hE hS hL o1 (zo_tl o2)) (fun z => (kf (fun y => z ((zin_le zin_0 hr).mpr y))) p e s m args below meth c D dA ad0 h0 A C H locs ad lm hP hE hS hL o1 (zo_tl o2))
theorem e_if_gt {l : Launch} {Y : zM} {Q : zO → zH → Prop} {k n pc : Nat} {ls st : List zV} {h : zH} {a off : Int} {tgt : Nat} (d : decode (zMc Y) pc = .ok (.ifCond .gt off, 3)) (ht : (pc : Int) + off = (tgt : Int)) (hr : zin a) (kt : 0 < a → AW l Y Q k n tgt ls st h) (kf : ¬ 0 < a → AW l Y Q k n (pc + 3) ls st h) : AW l Y Q k n pc ls (zI a :: st) h := by
  intro p e s m args below meth c D dA ad0 h0 A C H locs ad lm hP hE hS hL o1 o2
  have hx := C.1
  have hb := C.2.1
  exact lv_if_gt hx hb d ht (fun z => (kt ((zin_lt zin_0 hr).mp z)) p e s m args below meth c D dA ad0 h0 A C H locs ad lm hP hE hS hL o1 (zo_tl o2)) (fun z => (kf (fun y => z ((zin_lt zin_0 hr).mpr y))) p e s m args below meth c D dA ad0 h0 A C H locs ad lm hP hE hS hL o1 (zo_tl o2))
theorem e_if_le {l : Launch} {Y : zM} {Q : zO → zH → Prop} {k n pc : Nat} {ls st : List zV} {h : zH} {a off : Int} {tgt : Nat} (d : decode (zMc Y) pc = .ok (.ifCond .le off, 3)) (ht : (pc : Int) + off = (tgt : Int)) (hr : zin a) (kt : a ≤ 0 → AW l Y Q k n tgt ls st h) (kf : ¬ a ≤ 0 → AW l Y Q k n (pc + 3) ls st h) : AW l Y Q k n pc ls (zI a :: st) h := by
  intro p e s m args below meth c D dA ad0 h0 A C H locs ad lm hP hE hS hL o1 o2
  have hx := C.1
  have hb := C.2.1
  exact lv_if_le hx hb d ht (fun z => (kt ((zin_le hr zin_0).mp z)) p e s m args below meth c D dA ad0 h0 A C H locs ad lm hP hE hS hL o1 (zo_tl o2)) (fun z => (kf (fun y => z ((zin_le hr zin_0).mpr y))) p e s m args below meth c D dA ad0 h0 A C H locs ad lm hP hE hS hL o1 (zo_tl o2))
theorem e_icmp_eq {l : Launch} {Y : zM} {Q : zO → zH → Prop} {k n pc : Nat} {ls st : List zV} {h : zH} {a b off : Int} {tgt : Nat} (d : decode (zMc Y) pc = .ok (.if_icmp .eq off, 3)) (ht : (pc : Int) + off = (tgt : Int)) (hr : zin a) (hq : zin b) (kt : a = b → AW l Y Q k n tgt ls st h) (kf : ¬ a = b → AW l Y Q k n (pc + 3) ls st h) : AW l Y Q k n pc ls (zI b :: zI a :: st) h := by
  intro p e s m args below meth c D dA ad0 h0 A C H locs ad lm hP hE hS hL o1 o2
  have hx := C.1
  have hb := C.2.1
  exact lv_icmp_eq hx hb d ht (fun z => (kt ((zin_eq hr hq).mp z)) p e s m args below meth c D dA ad0 h0 A C H locs ad lm hP hE hS hL o1 (zo_tl (zo_tl o2))) (fun z => (kf (fun y => z ((zin_eq hr hq).mpr y))) p e s m args below meth c D dA ad0 h0 A C H locs ad lm hP hE hS hL o1 (zo_tl (zo_tl o2)))
theorem e_icmp_ne {l : Launch} {Y : zM} {Q : zO → zH → Prop} {k n pc : Nat} {ls st : List zV} {h : zH} {a b off : Int} {tgt : Nat} (d : decode (zMc Y) pc = .ok (.if_icmp .ne off, 3)) (ht : (pc : Int) + off = (tgt : Int)) (hr : zin a) (hq : zin b) (kt : ¬ a = b → AW l Y Q k n tgt ls st h) (kf : a = b → AW l Y Q k n (pc + 3) ls st h) : AW l Y Q k n pc ls (zI b :: zI a :: st) h := by
  intro p e s m args below meth c D dA ad0 h0 A C H locs ad lm hP hE hS hL o1 o2
  have hx := C.1
  have hb := C.2.1
  exact lv_icmp_ne hx hb d ht (fun z => (kt (fun y => z ((zin_eq hr hq).mpr y))) p e s m args below meth c D dA ad0 h0 A C H locs ad lm hP hE hS hL o1 (zo_tl (zo_tl o2))) (fun z => (kf ((zin_eq hr hq).mp z)) p e s m args below meth c D dA ad0 h0 A C H locs ad lm hP hE hS hL o1 (zo_tl (zo_tl o2)))
theorem e_icmp_lt {l : Launch} {Y : zM} {Q : zO → zH → Prop} {k n pc : Nat} {ls st : List zV} {h : zH} {a b off : Int} {tgt : Nat} (d : decode (zMc Y) pc = .ok (.if_icmp .lt off, 3)) (ht : (pc : Int) + off = (tgt : Int)) (hr : zin a) (hq : zin b) (kt : a < b → AW l Y Q k n tgt ls st h) (kf : ¬ a < b → AW l Y Q k n (pc + 3) ls st h) : AW l Y Q k n pc ls (zI b :: zI a :: st) h := by
  intro p e s m args below meth c D dA ad0 h0 A C H locs ad lm hP hE hS hL o1 o2
  have hx := C.1
  have hb := C.2.1
  exact lv_icmp_lt hx hb d ht (fun z => (kt ((zin_lt hr hq).mp z)) p e s m args below meth c D dA ad0 h0 A C H locs ad lm hP hE hS hL o1 (zo_tl (zo_tl o2))) (fun z => (kf (fun y => z ((zin_lt hr hq).mpr y))) p e s m args below meth c D dA ad0 h0 A C H locs ad lm hP hE hS hL o1 (zo_tl (zo_tl o2)))
theorem e_icmp_ge {l : Launch} {Y : zM} {Q : zO → zH → Prop} {k n pc : Nat} {ls st : List zV} {h : zH} {a b off : Int} {tgt : Nat} (d : decode (zMc Y) pc = .ok (.if_icmp .ge off, 3)) (ht : (pc : Int) + off = (tgt : Int)) (hr : zin a) (hq : zin b) (kt : b ≤ a → AW l Y Q k n tgt ls st h) (kf : ¬ b ≤ a → AW l Y Q k n (pc + 3) ls st h) : AW l Y Q k n pc ls (zI b :: zI a :: st) h := by
  intro p e s m args below meth c D dA ad0 h0 A C H locs ad lm hP hE hS hL o1 o2
  have hx := C.1
  have hb := C.2.1
  exact lv_icmp_ge hx hb d ht (fun z => (kt ((zin_le hq hr).mp z)) p e s m args below meth c D dA ad0 h0 A C H locs ad lm hP hE hS hL o1 (zo_tl (zo_tl o2))) (fun z => (kf (fun y => z ((zin_le hq hr).mpr y))) p e s m args below meth c D dA ad0 h0 A C H locs ad lm hP hE hS hL o1 (zo_tl (zo_tl o2)))
theorem e_icmp_gt {l : Launch} {Y : zM} {Q : zO → zH → Prop} {k n pc : Nat} {ls st : List zV} {h : zH} {a b off : Int} {tgt : Nat} (d : decode (zMc Y) pc = .ok (.if_icmp .gt off, 3)) (ht : (pc : Int) + off = (tgt : Int)) (hr : zin a) (hq : zin b) (kt : b < a → AW l Y Q k n tgt ls st h) (kf : ¬ b < a → AW l Y Q k n (pc + 3) ls st h) : AW l Y Q k n pc ls (zI b :: zI a :: st) h := by
  intro p e s m args below meth c D dA ad0 h0 A C H locs ad lm hP hE hS hL o1 o2
  have hx := C.1
  have hb := C.2.1
  exact lv_icmp_gt hx hb d ht (fun z => (kt ((zin_lt hq hr).mp z)) p e s m args below meth c D dA ad0 h0 A C H locs ad lm hP hE hS hL o1 (zo_tl (zo_tl o2))) (fun z => (kf (fun y => z ((zin_lt hq hr).mpr y))) p e s m args below meth c D dA ad0 h0 A C H locs ad lm hP hE hS hL o1 (zo_tl (zo_tl o2)))
theorem e_icmp_le {l : Launch} {Y : zM} {Q : zO → zH → Prop} {k n pc : Nat} {ls st : List zV} {h : zH} {a b off : Int} {tgt : Nat} (d : decode (zMc Y) pc = .ok (.if_icmp .le off, 3)) (ht : (pc : Int) + off = (tgt : Int)) (hr : zin a) (hq : zin b) (kt : a ≤ b → AW l Y Q k n tgt ls st h) (kf : ¬ a ≤ b → AW l Y Q k n (pc + 3) ls st h) : AW l Y Q k n pc ls (zI b :: zI a :: st) h := by
  intro p e s m args below meth c D dA ad0 h0 A C H locs ad lm hP hE hS hL o1 o2
  have hx := C.1
  have hb := C.2.1
  exact lv_icmp_le hx hb d ht (fun z => (kt ((zin_le hr hq).mp z)) p e s m args below meth c D dA ad0 h0 A C H locs ad lm hP hE hS hL o1 (zo_tl (zo_tl o2))) (fun z => (kf (fun y => z ((zin_le hr hq).mpr y))) p e s m args below meth c D dA ad0 h0 A C H locs ad lm hP hE hS hL o1 (zo_tl (zo_tl o2)))
theorem e_acmp_eq {l : Launch} {Y : zM} {Q : zO → zH → Prop} {k n pc : Nat} {ls st : List zV} {h : zH} {r t : Option Nat} {off : Int} {tgt : Nat} (d : decode (zMc Y) pc = .ok (.if_acmp .eq off, 3)) (ht : (pc : Int) + off = (tgt : Int)) (kt : r = t → AW l Y Q k n tgt ls st h) (kf : ¬ r = t → AW l Y Q k n (pc + 3) ls st h) : AW l Y Q k n pc ls (zR t :: zR r :: st) h := by
  intro p e s m args below meth c D dA ad0 h0 A C H locs ad lm hP hE hS hL o1 o2
  have hx := C.1
  have hb := C.2.1
  have h9 : ¬ A (ad 0) := by rw [hE.1 0 (Or.inl (Nat.zero_le 1))]; exact (zS_out C.2.2.2.2.2.2.2.2.2.2.1)
  have hj := zP_inj hP h9 (zo_hd (zo_tl o2)) (zo_hd o2)
  exact lv_acmp_eq hx hb d ht (fun z => (kt (hj.mp z)) p e s m args below meth c D dA ad0 h0 A C H locs ad lm hP hE hS hL o1 (zo_tl (zo_tl o2))) (fun z => (kf (fun y => z (hj.mpr y))) p e s m args below meth c D dA ad0 h0 A C H locs ad lm hP hE hS hL o1 (zo_tl (zo_tl o2)))
theorem e_acmp_ne {l : Launch} {Y : zM} {Q : zO → zH → Prop} {k n pc : Nat} {ls st : List zV} {h : zH} {r t : Option Nat} {off : Int} {tgt : Nat} (d : decode (zMc Y) pc = .ok (.if_acmp .ne off, 3)) (ht : (pc : Int) + off = (tgt : Int)) (kt : ¬ r = t → AW l Y Q k n tgt ls st h) (kf : r = t → AW l Y Q k n (pc + 3) ls st h) : AW l Y Q k n pc ls (zR t :: zR r :: st) h := by
  intro p e s m args below meth c D dA ad0 h0 A C H locs ad lm hP hE hS hL o1 o2
  have hx := C.1
  have hb := C.2.1
  have h9 : ¬ A (ad 0) := by rw [hE.1 0 (Or.inl (Nat.zero_le 1))]; exact (zS_out C.2.2.2.2.2.2.2.2.2.2.1)
  have hj := zP_inj hP h9 (zo_hd (zo_tl o2)) (zo_hd o2)
  exact lv_acmp_ne hx hb d ht (fun z => (kt (fun y => z (hj.mpr y))) p e s m args below meth c D dA ad0 h0 A C H locs ad lm hP hE hS hL o1 (zo_tl (zo_tl o2))) (fun z => (kf (hj.mp z)) p e s m args below meth c D dA ad0 h0 A C H locs ad lm hP hE hS hL o1 (zo_tl (zo_tl o2)))
theorem e_ifnull {l : Launch} {Y : zM} {Q : zO → zH → Prop} {k n pc : Nat} {ls st : List zV} {h : zH} {r : Option Nat} {off : Int} {tgt : Nat} (d : decode (zMc Y) pc = .ok (.ifnull off, 3)) (ht : (pc : Int) + off = (tgt : Int)) (kt : r = none → AW l Y Q k n tgt ls st h) (kf : ∀ a, r = some a → AW l Y Q k n (pc + 3) ls st h) : AW l Y Q k n pc ls (zR r :: st) h := by
  intro p e s m args below meth c D dA ad0 h0 A C H locs ad lm hP hE hS hL o1 o2
  have hx := C.1
  have hb := C.2.1
  cases r with
  | none => exact lv_ifnullN hx hb d ht ((kt rfl) p e s m args below meth c D dA ad0 h0 A C H locs ad lm hP hE hS hL o1 (zo_tl o2))
  | some a => exact lv_ifnull hx hb d ((kf a rfl) p e s m args below meth c D dA ad0 h0 A C H locs ad lm hP hE hS hL o1 (zo_tl o2))
theorem e_ifnonnull {l : Launch} {Y : zM} {Q : zO → zH → Prop} {k n pc : Nat} {ls st : List zV} {h : zH} {r : Option Nat} {off : Int} {tgt : Nat} (d : decode (zMc Y) pc = .ok (.ifnonnull off, 3)) (ht : (pc : Int) + off = (tgt : Int)) (kt : ∀ a, r = some a → AW l Y Q k n tgt ls st h) (kf : r = none → AW l Y Q k n (pc + 3) ls st h) : AW l Y Q k n pc ls (zR r :: st) h := by
  intro p e s m args below meth c D dA ad0 h0 A C H locs ad lm hP hE hS hL o1 o2
  have hx := C.1
  have hb := C.2.1
  cases r with
  | none => exact lv_ifnonnullN hx hb d ((kf rfl) p e s m args below meth c D dA ad0 h0 A C H locs ad lm hP hE hS hL o1 (zo_tl o2))
  | some a => exact lv_ifnonnull hx hb d ht ((kt a rfl) p e s m args below meth c D dA ad0 h0 A C H locs ad lm hP hE hS hL o1 (zo_tl o2))
