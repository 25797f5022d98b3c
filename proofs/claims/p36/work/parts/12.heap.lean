/-! the classes' tables -/
def zCn (ci : Nat) : String := match ci with
  | 0 => RJx4a65c
  | 1 => RX0
  | 2 => RX1
  | 3 => RX2
  | 4 => RX3
  | 5 => RX4
  | 6 => RX5
  | 7 => RX6
  | 8 => RX7
  | _ => RX8
def zCt (ci : Nat) : u_T := match ci with
  | 0 => TJx4a65c
  | 1 => TX0
  | 2 => TX1
  | 3 => TX2
  | 4 => TX3
  | 5 => TX4
  | 6 => TX5
  | 7 => TX6
  | 8 => TX7
  | _ => TX8
theorem zCl_at (ci : Nat) (h : ci < 10) : zCl[ci]? = some (zCn ci, zCt ci, zFn ci) := by
  match ci, h with
  | 0, _ => rfl
  | 1, _ => rfl
  | 2, _ => rfl
  | 3, _ => rfl
  | 4, _ => rfl
  | 5, _ => rfl
  | 6, _ => rfl
  | 7, _ => rfl
  | 8, _ => rfl
  | 9, _ => rfl
theorem zTm {w : Cond} (h1 : w ∈ lw_tbl) (h2 : goodWord w = true) : w ∈ zT := List.mem_filter.mpr ⟨h1, h2⟩
theorem zTl {L : List Cond} (h1 : ∀ w ∈ L, w ∈ lw_tbl) (h2 : L.all goodWord = true) : ∀ w ∈ L, w ∈ zT := fun w hw => zTm (h1 w hw) (List.all_eq_true.mp h2 w hw)
theorem zCl_ws (ci : Nat) (h : ci < 10) : ∀ w ∈ u_ws (zCn ci) (zCt ci) (zFn ci), w ∈ zT := by
  match ci, h with
  | 0, _ => exact zTl (by decide +kernel) (by decide +kernel)
  | 1, _ => exact zTl (by decide +kernel) (by decide +kernel)
  | 2, _ => exact zTl (by decide +kernel) (by decide +kernel)
  | 3, _ => exact zTl (by decide +kernel) (by decide +kernel)
  | 4, _ => exact zTl (by decide +kernel) (by decide +kernel)
  | 5, _ => exact zTl (by decide +kernel) (by decide +kernel)
  | 6, _ => exact zTl (by decide +kernel) (by decide +kernel)
  | 7, _ => exact zTl (by decide +kernel) (by decide +kernel)
  | 8, _ => exact zTl (by decide +kernel) (by decide +kernel)
  | 9, _ => exact zTl (by decide +kernel) (by decide +kernel)
theorem zCl_ty (ci : Nat) (h : ci < 10) : ∀ k, k < zFn ci → parseFieldDescriptor (zCt ci k).2.2.1 = some (zTy ci k) := by
  match ci, h with
  | 0, _ => exact tyJx4a65c_ok
  | 1, _ => exact tyX0_ok
  | 2, _ => exact tyX1_ok
  | 3, _ => exact tyX2_ok
  | 4, _ => exact tyX3_ok
  | 5, _ => exact tyX4_ok
  | 6, _ => exact tyX5_ok
  | 7, _ => exact tyX6_ok
  | 8, _ => exact tyX7_ok
  | 9, _ => exact tyX8_ok
theorem zCl_nm (ci : Nat) (h : ci < 10) : ∀ a, a < zFn ci → ∀ b, b < zFn ci → a ≠ b → (zCt ci a).2.1 ≠ (zCt ci b).2.1 := by
  match ci, h with
  | 0, _ => exact nmJx4a65c
  | 1, _ => exact nmX0
  | 2, _ => exact nmX1
  | 3, _ => exact nmX2
  | 4, _ => exact nmX3
  | 5, _ => exact nmX4
  | 6, _ => exact nmX5
  | 7, _ => exact nmX6
  | 8, _ => exact nmX7
  | 9, _ => exact nmX8
/-- a field of the world's classes, as a method of 'own' links it -/
def zFL (own : String) (idx ci k f : Nat) : Prop := ci < 10 ∧ k < zFn ci ∧ f = 100 * ci + k ∧ ∃ ref : String, Cond.fieldLink own idx ref (zCt ci k).2.1 (zCt ci k).2.2.1 ∈ zT ∧ (ref = (zCt ci k).1 ∨ Cond.sameField ref (zCt ci k).1 (zCt ci k).2.1 (zCt ci k).2.2.1 ∈ zT)
/-- 1 a reference, 2 a long, 0 an int or smaller -/
def zIs (ty : FieldType) : Nat := match ty with
  | .object _ => 1
  | .array _ => 1
  | .long => 2
  | .float => 3
  | .double => 3
  | _ => 0
theorem zFv_I {ad : Nat → Nat} {h : zH} {ty : FieldType} {i n : Nat} (ht : zIs ty = 0) : zFv ad h ty i n = .int (Int32.ofInt (zf h i n)) := by
  cases ty <;> first | rfl | cases ht
theorem zFv_R {ad : Nat → Nat} {h : zH} {ty : FieldType} {i n : Nat} (ht : zIs ty = 1) : zFv ad h ty i n = va_rf ((zr h i n).map ad) := by
  cases ty <;> first | rfl | cases ht
theorem zFv_L {ad : Nat → Nat} {h : zH} {ty : FieldType} {i n : Nat} (ht : zIs ty = 2) : zFv ad h ty i n = .long (Int64.ofInt (zl h i n)) := by
  cases ty <;> first | rfl | cases ht
theorem zOb_at {ad : Nat → Nat} {h : zH} {ci n k : Nat} (hk : k < zFn ci) : (zOb ad h ci n)[k]? = some (zFv ad h (zTy ci k) (100 * ci + k) n) := by
  rw [zOb, List.getElem?_map, List.getElem?_range hk]
  rfl
theorem zOb_len {ad : Nat → Nat} {h : zH} {ci n : Nat} : (zOb ad h ci n).length = zFn ci := by
  rw [zOb, List.length_map, List.length_range]
theorem zOb_set {ad : Nat → Nat} {h h' : zH} {ci n k : Nat} {v : Value} (hv : zFv ad h' (zTy ci k) (100 * ci + k) n = v) (ho : ∀ j, j ≠ k → zFv ad h' (zTy ci j) (100 * ci + j) n = zFv ad h (zTy ci j) (100 * ci + j) n) : (zOb ad h ci n).set k v = zOb ad h' ci n := by
  apply List.ext_getElem?
  intro j
  rw [List.getElem?_set]
  by_cases e : k = j
  · subst e
    rw [if_pos rfl]
    by_cases hk : k < zFn ci
    · rw [zOb_at hk, hv, if_pos (by rw [zOb_len]; exact hk)]
    · rw [if_neg (by rw [zOb_len]; exact hk)]
      exact (List.getElem?_eq_none (by rw [zOb_len]; omega)).symm
  · rw [if_neg e]
    by_cases hj : j < zFn ci
    · rw [zOb_at hj, zOb_at hj, ho j (fun z => e z.symm)]
    · rw [List.getElem?_eq_none (by rw [zOb_len]; omega), List.getElem?_eq_none (by rw [zOb_len]; omega)]
theorem zEn_congr {dA : Nat → ClassId} {ad ad' : Nat → Nat} {h h' : zH} {n : Nat} (e1 : zK h' n = zK h n) (e2 : zN h' n = zN h n) (e3 : ∀ i, zf h' i n = zf h i n) (e4 : ∀ j, za h' n j = za h n j) (e5 : ∀ i, (zr h' i n).map ad' = (zr h i n).map ad) (e6 : ∀ j, (zq h' n j).map ad' = (zq h n j).map ad) (e7 : ∀ i, zl h' i n = zl h i n) (e8 : ∀ j, zm h' n j = zm h n j) (e9 : ∀ j, zd h' n j = zd h n j) : zEn dA ad' h' n = zEn dA ad h n := by
  have a1 : zOb ad' h' (zK h n - 1) n = zOb ad h (zK h n - 1) n := by
    apply List.ext_getElem?
    intro j
    by_cases hj : j < zFn (zK h n - 1)
    · rw [zOb_at hj, zOb_at hj]
      congr 1
      unfold zFv
      split <;> simp only [e3, e5, e7]
    · rw [List.getElem?_eq_none (by rw [zOb_len]; omega), List.getElem?_eq_none (by rw [zOb_len]; omega)]
  have a2 : zRw ad' h' (zK h n - 100) n = zRw ad h (zK h n - 100) n := by
    unfold zRw
    split <;> simp only [e2, e4, e6, e8, e9]
  unfold zEn
  rw [e1, a1, a2]
theorem zEn_o {dA : Nat → ClassId} {ad : Nat → Nat} {h : zH} {n ci : Nat} (hK : zK h n = ci + 1) (hc : ci < 10) : zEn dA ad h n = .inr (ci, zOb ad h ci n) := by
  unfold zEn
  rw [if_pos (by omega), hK, Nat.add_sub_cancel]
theorem zEn_r {dA : Nat → ClassId} {ad : Nat → Nat} {h : zH} {n t : Nat} (hK : zK h n = 100 + t) : zEn dA ad h n = .inl (dA t, zRw ad h t n) := by
  unfold zEn
  rw [if_neg (by omega), hK, Nat.add_sub_cancel_left]
theorem zW_at {dA : Nat → ClassId} {ad : Nat → Nat} {h : zH} {L : List Nat} {q0 n : Nat} (hq : L[q0]? = some n) : (zW dA ad h L)[q0]? = some (ad n, zEn dA ad h n) := by
  rw [zW, List.getElem?_map, hq]
  rfl
theorem zW_set {A : Nat → Prop} {dA : Nat → ClassId} {ad : Nat → Nat} {h h' : zH} {L : List Nat} {q0 n : Nat} {E : va_E} (hD : va_D A (zW dA ad h L)) (hq : L[q0]? = some n) (hE : zEn dA ad h' n = E) (ho : ∀ m, m ≠ n → zEn dA ad h' m = zEn dA ad h m) : (zW dA ad h L).set q0 (ad n, E) = zW dA ad h' L := by
  apply List.ext_getElem?
  intro j
  rw [List.getElem?_set]
  by_cases e : q0 = j
  · subst e
    rw [if_pos rfl, zW_at hq, hE]
    rw [if_pos]
    rw [zW, List.length_map]
    exact (List.getElem?_eq_some_iff.mp hq).1
  · rw [if_neg e]
    cases hj : L[j]? with
    | none =>
      rw [zW, zW, List.getElem?_map, List.getElem?_map, hj]
      rfl
    | some m =>
      rw [zW_at hj, zW_at hj, ho m]
      intro z
      subst z
      exact e (hD.1 q0 j _ _ (zW_at hq) (zW_at hj) rfl)
theorem zW_push {dA : Nat → ClassId} {ad ad' : Nat → Nat} {h h' : zH} {L : List Nat} {n q : Nat} {E : va_E} (hq : ad' n = q) (hE : zEn dA ad' h' n = E) (ho : ∀ m ∈ L, ad' m = ad m ∧ zEn dA ad' h' m = zEn dA ad h m) : zW dA ad h L ++ [(q, E)] = zW dA ad' h' (L ++ [n]) := by
  rw [zW, zW, List.map_append]
  congr 1
  · exact List.map_congr_left (fun m hm => by rw [(ho m hm).1, (ho m hm).2])
  · simp only [List.map_cons, List.map_nil, hq, hE]
/-- what a name in use stands for -/
theorem zP_at {s : State} {D : va_G} {dA : Nat → ClassId} {A : Nat → Prop} {ad : Nat → Nat} {h : zH} {H : Heap} (hP : zP s D dA A ad h H) {n : Nat} (hn : zK h n ≠ 0) : ∃ (L : List Nat) (tys : List (ClassId × FieldType)) (q0 : Nat), va_K D zCl tys s ∧ (∀ n, n ∈ L ↔ zK h n ≠ 0) ∧ (∀ n ∈ L, 100 ≤ zK h n → (dA (zK h n - 100), zAt (zK h n - 100)) ∈ tys) ∧ va_P D zCl (zW dA ad h L) H ∧ va_D A (zW dA ad h L) ∧ L[q0]? = some n := by
  obtain ⟨-, L, tys, h1, h2, h3, h4, h5⟩ := hP
  obtain ⟨q0, hq⟩ := List.getElem?_of_mem ((h2 n).mpr hn)
  exact ⟨L, tys, q0, h1, h2, h3, h4, h5, hq⟩
/-- a store keeps the world -/
theorem zP_stored {s : State} {D : va_G} {dA : Nat → ClassId} {A : Nat → Prop} {ad : Nat → Nat} {h h' : zH} {H1 : Heap} {L : List Nat} {tys : List (ClassId × FieldType)} {q0 n : Nat} {E : va_E} (hG : zG h') (hK1 : ∀ m, zK h' m = zK h m) (h1 : va_K D zCl tys s) (h2 : ∀ n, n ∈ L ↔ zK h n ≠ 0) (h3 : ∀ n ∈ L, 100 ≤ zK h n → (dA (zK h n - 100), zAt (zK h n - 100)) ∈ tys) (hD : va_D A (zW dA ad h L)) (hq : L[q0]? = some n) (hE : zEn dA ad h' n = E) (ho : ∀ m, m ≠ n → zEn dA ad h' m = zEn dA ad h m)
    (hP1 : va_P D zCl ((zW dA ad h L).set q0 (ad n, E)) H1) (hD1 : va_D A ((zW dA ad h L).set q0 (ad n, E))) : zP s D dA A ad h' H1 := by
  rw [zW_set hD hq hE ho] at hP1 hD1
  exact ⟨hG, L, tys, h1, fun m => by rw [hK1]; exact h2 m, fun m hm => by rw [hK1]; exact h3 m hm, hP1, hD1⟩
theorem zE_st {h0 h h' : zH} {ad0 ad : Nat → Nat} (a : zE h0 ad0 h ad) (hK1 : ∀ m, zK h' m = zK h m) : zE h0 ad0 h' ad := ⟨a.1, fun n hn => (hK1 n).trans (a.2 n hn)⟩
theorem zok_st {h h' : zH} {r : Option Nat} (hK1 : ∀ m, zK h' m = zK h m) (a : zok h r) : zok h' r := fun n hn => by rw [hK1]; exact a n hn
theorem zokv_st {h h' : zH} {v : zV} (hK1 : ∀ m, zK h' m = zK h m) (a : zokv h v) : zokv h' v := by
  rcases v with z | r | z | u | u | u
  · trivial
  · exact zok_st hK1 a
  · trivial
  · trivial
  · trivial
  · trivial
theorem zos_st {h h' : zH} {vs : List zV} (hK1 : ∀ m, zK h' m = zK h m) (a : ∀ v ∈ vs, zokv h v) : ∀ v ∈ vs, zokv h' v := fun v hv => zokv_st hK1 (a v hv)
theorem z2_eq {α : Type} {f : Nat → Nat → α} {i n : Nat} {v : α} : z2 f i n v i n = v := if_pos ⟨rfl, rfl⟩
theorem z2_ni {α : Type} {f : Nat → Nat → α} {i n j m : Nat} {v : α} (h : j ≠ i) : z2 f i n v j m = f j m := if_neg (fun z => h z.1)
theorem z2_nn {α : Type} {f : Nat → Nat → α} {i n j m : Nat} {v : α} (h : m ≠ n) : z2 f i n v j m = f j m := if_neg (fun z => h z.2)
theorem z3_eq {α : Type} {f : Nat → Int → α} {n : Nat} {i : Int} {v : α} : z3 f n i v n i = v := if_pos ⟨rfl, rfl⟩
theorem z3_nn {α : Type} {f : Nat → Int → α} {n m : Nat} {i j : Int} {v : α} (h : m ≠ n) : z3 f n i v m j = f m j := if_neg (fun z => h z.1)
theorem z3_ni {α : Type} {f : Nat → Int → α} {n m : Nat} {i j : Int} {v : α} (h : j ≠ i) : z3 f n i v m j = f m j := if_neg (fun z => h z.2)
theorem zG_sf {h : zH} {i n : Nat} {z : Int} (g : zG h) (hz : zin z) : zG (sf h i n z) := by
  obtain ⟨g1, g2⟩ := g
  refine ⟨fun j m => ?_, g2⟩
  show zin (z2 (zf h) i n z j m)
  unfold z2
  split
  · exact hz
  · exact g1 j m
theorem zG_sa {h : zH} {n : Nat} {i z : Int} (g : zG h) (hz : zin z) (hb : zK h n = 101 → z = 0 ∨ z = 1) : zG (sa h n i z) := by
  obtain ⟨g1, g2, g3, g4, g5, g6, g7, g8⟩ := g
  refine ⟨g1, fun m j => ?_, g3, g4, g5, g6, g7, fun m j hm => ?_⟩
  · show zin (z3 (za h) n i z m j)
    unfold z3
    split
    · exact hz
    · exact g2 m j
  · show z3 (za h) n i z m j = 0 ∨ z3 (za h) n i z m j = 1
    unfold z3
    split
    · rename_i e
      obtain ⟨rfl, rfl⟩ := e
      exact hb hm
    · exact g8 m j hm
theorem zG_sr {h : zH} {i n : Nat} {r : Option Nat} (g : zG h) (hr : zok h r) : zG (sr h i n r) := by
  obtain ⟨g1, g2, g3, g4⟩ := g
  refine ⟨g1, g2, fun j m => ?_, g4⟩
  show zok h (z2 (zr h) i n r j m)
  unfold z2
  split
  · exact hr
  · exact g3 j m
theorem zG_sq {h : zH} {n : Nat} {i : Int} {r : Option Nat} (g : zG h) (hr : zok h r) : zG (sq h n i r) := by
  obtain ⟨g1, g2, g3, g4, g5⟩ := g
  refine ⟨g1, g2, g3, fun m j => ?_, g5⟩
  show zok h (z3 (zq h) n i r m j)
  unfold z3
  split
  · exact hr
  · exact g4 m j
theorem zG_sl {h : zH} {i n : Nat} {z : Int} (g : zG h) : zG (sl h i n z) := g
theorem zG_sm {h : zH} {n : Nat} {i z : Int} (g : zG h) : zG (sm h n i z) := g
theorem zG_sd {h : zH} {n : Nat} {i : Int} {z : UInt64} (g : zG h) : zG (sd h n i z) := g
