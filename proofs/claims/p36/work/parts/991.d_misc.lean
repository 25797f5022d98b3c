/-! p36: second calls, clipboards, keys -/
theorem gues_in {S : S9} {c : Int} (h : 0 ≤ S 17 (S 35 c) ∧ S 17 (S 35 c) ≤ 20) : 0 ≤ gues S c ∧ gues S c ≤ 20 := by
  have := sg_in1 (f := fun k => b2 (S 21 (20 * S 35 c + k) = c)) (fun _ _ => b2_le) (S 17 (S 35 c)) h.1
  unfold gues
  omega
theorem gues_typ {S : S9} {c t : Int} (h : 0 ≤ S 17 (S 35 c)) : gues (typS S c t) c = gues S c + 1 := by
  have e35 : typS S c t 35 c = S 35 c := by
    unfold typS
    rw [up_f (by decide), up_f (by decide), up_f (by decide), up_f (by decide), up_f (by decide)]
  have e17 : typS S c t 17 (S 35 c) = S 17 (S 35 c) + 1 := by
    unfold typS
    exact up_eq
  have e21 : ∀ j, typS S c t 21 j = if j = 20 * S 35 c + S 17 (S 35 c) then c else S 21 j := fun j => by
    unfold typS
    rw [up_f (by decide), up_at, up_f (by decide), up_f (by decide), up_f (by decide)]
  unfold gues
  rw [e35, e17, sg_s h, e21, if_pos rfl, b2_t rfl, sg_eq (g := fun k => b2 (S 21 (20 * S 35 c + k) = c)) _ (fun i i0 i1 => by
    show b2 (typS S c t 21 (20 * S 35 c + i) = c) = _
    rw [e21, if_neg (by omega)])]
theorem typ_f {S : S9} {c t j : Int} {f : Nat} (h : f < 17 ∨ 21 < f) : typS S c t f j = S f j := by
  unfold typS
  rw [up_f (by omega), up_f (by omega), up_f (by omega), up_f (by omega), up_f (by omega)]
theorem sg_one {f : Int → Int} (h0 : 0 ≤ f 0 ∧ f 0 ≤ 1) (h : ∀ i, 1 ≤ i → f i = 0) : ∀ n : Nat, 0 ≤ sg f n ∧ sg f n ≤ 1
  | 0 => by unfold sg; omega
  | n + 1 => by
    have ih := sg_one h0 h n
    unfold sg
    by_cases e : n = 0
    · subst e
      have e1 : sg f 0 = 0 := rfl
      show 0 ≤ sg f 0 + f 0 ∧ sg f 0 + f 0 ≤ 1
      omega
    · rw [h n (by omega)]
      omega
theorem draw_in {S : S9} {w x y a b c : Int} (hW : IW1 S w) : 0 ≤ drawN S w x y a b c ∧ drawN S w x y a b c ≤ 96 := by
  obtain ⟨h1, h2, h3, h4, h5, h6, h7, h8, -⟩ := hW
  have ha := area_le h5 h6 h7 h8
  have := sg_in1 (f := fun k => b2 (inR (S 7 w) x y a b k ∧ S 14 (96 * w + k) ≠ c)) (fun _ _ => b2_le) (S 7 w * S 8 w) (by omega)
  unfold drawN
  omega
theorem draw_one {S : S9} {w c : Int} (h : 1 ≤ S 7 w) : 0 ≤ drawN S w 0 0 1 1 c ∧ drawN S w 0 0 1 1 c ≤ 1 := by
  unfold drawN
  refine sg_one (f := fun k => b2 (inR (S 7 w) 0 0 1 1 k ∧ S 14 (96 * w + k) ≠ c)) b2_le (fun i hi => b2_f (fun z => ?_)) _
  obtain ⟨⟨⟨z1, z2⟩, z3, z4⟩, -⟩ := z
  have g4 : i / S 7 w * S 7 w + i % S 7 w = i := by rw [Int.mul_comm]; exact Int.mul_ediv_add_emod i (S 7 w)
  have g5 : i / S 7 w = 0 := by omega
  rw [g5] at g4
  omega
theorem mov_in {S S' : S9} {s : Int} : 0 ≤ movN S S' s ∧ movN S S' s ≤ 96 := sg_in1 (f := fun p => b2 (screenAt S' s p ≠ screenAt S s p)) (fun _ _ => b2_le) 96 (by decide)
theorem mov_id {S : S9} {w x y : Int} : movS (movS S w x y) w x y = movS S w x y := by
  funext f j
  unfold movS
  by_cases h6 : f = 6 ∧ j = w
  · obtain ⟨rfl, rfl⟩ := h6
    rw [up_eq, up_eq]
  · have e6 : ∀ T : S9, up T 6 w y f j = T f j := fun T => if_neg h6
    rw [e6, e6]
    by_cases h5 : f = 5 ∧ j = w
    · obtain ⟨rfl, rfl⟩ := h5
      rw [up_eq, up_eq]
    · have e5 : ∀ T : S9, up T 5 w x f j = T f j := fun T => if_neg h5
      rw [e5, e6]
theorem mov_again {S : S9} {w x y s : Int} : movN (movS S w x y) (movS (movS S w x y) w x y) s = 0 := by
  rw [mov_id]
  exact sg_z _ (fun i _ _ => b2_f (fun z => z rfl))
theorem rai_again {S : S9} {s w p : Int} : b2 (raiS S s w p 15 (6 * s + raiS S s w p 16 s - 1) ≠ w) = 0 := by
  rw [raiS_16, show 6 * s + (S 16 s - 1 + 1) - 1 = 6 * s + (S 16 s - 1) by omega, raiS_L]
  exact b2_f (fun z => z rfl)
theorem movg_26 {S : S9} {s : Int} : movgS S s 26 s = 1 := by
  unfold movgS
  rw [notI_f (by decide), up_eq]
theorem movg_cnt {S : S9} {s : Int} : cntL (movgS S s) s = 8 := by
  unfold cntL
  have e := sg_const (f := fun r => isL (movgS S s) s r) (a := 1) (8 : Int).toNat (fun r r0 r1 => by
    show isL (movgS S s) s r = 1
    rw [isL_ot]
    refine b2_t (Or.inl (fun z => ?_))
    have e0 : movgS S s 29 (8 * s + r) = 0 := by
      unfold movgS notI
      rw [if_pos (by omega)]
    rw [e0] at z
    exact absurd z (by decide))
  rw [e]
  rfl
/-- a right that is wanting -/
theorem may_no {S : S9} {a b : Int} (a0 : 0 ≤ a) (h1 : S 24 (4 * a + a) = 1) (h2 : a ≠ b) (h3 : S 25 ((4 * a + b) * 3 + (S 22 a - 1)) ≠ 1) : ∀ n : Nat, a < n → mayN S a b n = 0
  | 0, h => by omega
  | n + 1, h => by
    rw [mayN_s]
    by_cases e : a = n
    · refine b2_f (fun z => ?_)
      rw [← e] at z
      rcases z.2 with y | y | y
      · exact y h1
      · exact h2 y
      · exact h3 y
    · rw [may_no a0 h1 h2 h3 n (by omega)]
      exact b2_f (fun z => absurd z.1 (by decide))
theorem may_yes {S : S9} {a b : Int} (h1 : ∀ o, 0 ≤ o → o < 4 → o ≠ a → S 24 (4 * a + o) ≠ 1) (h3 : S 25 ((4 * a + b) * 3 + (S 22 a - 1)) = 1) : ∀ n : Nat, n ≤ 4 → mayN S a b n = 1
  | 0, _ => rfl
  | n + 1, h => by
    rw [mayN_s, may_yes h1 h3 n (by omega)]
    refine b2_t ⟨rfl, ?_⟩
    by_cases e : (n : Int) = a
    · rw [e]
      exact Or.inr (Or.inr h3)
    · exact Or.inl (h1 n (by omega) (by omega) e)
theorem za_nn {h : zH} {a m : Nat} {i v j : Int} (e : m ≠ a) : za (sa h a i v) m j = za h m j := z3_nn e
theorem za_eq {h : zH} {a : Nat} {i v : Int} : za (sa h a i v) a i = v := z3_eq
/-- the law's own rows beside the program -/
def hadP (h : zH) : Int → Prop := fun v => (0 ≤ v ∧ v < 256) ∧ za h 99 v = 1
def LW (S : S9) (ns nc : Int) (h : zH) : Prop := (S 1 0 = ns ∧ S 2 0 = nc) ∧ (zK h 6 = 100 ∧ zN h 6 = nc ∧ ∀ c, 0 ≤ c → c < nc → za h 6 c = S 35 c) ∧ (zK h 7 = 100 ∧ zN h 7 = ns ∧ ∀ q, 0 ≤ q → q < ns → za h 7 q = S 4 q) ∧ zK h 99 = 101 ∧ zN h 99 = 256
def LJ (S : S9) (B ns nc : Int) (h : zH) : Prop := RC S h ∧ I4 S B ∧ IBt S ∧ 0 ≤ B ∧ LW S ns nc h ∧ HD S (hadP h)
abbrev FQ (h h' : zH) : Prop := ∀ m, (m = 6 ∨ m = 7 ∨ (99 ≤ m ∧ m ≤ 142)) → eqAt m h h'
theorem FQ_tr {h h1 h2 : zH} (a : FQ h h1) (b : FQ h1 h2) : FQ h h2 := fun m hm => eqAt_tr (a m hm) (b m hm)
theorem II_mk {S : S9} {B : Int} (i : I4 S B) (b : IBt S) : II S B := ⟨i.1, i.2.1, i.2.2.1, i.2.2.2, b⟩
theorem had_at {h h' : zH} (e : eqAt 99 h h') : hadP h' = hadP h := funext fun v => by
  unfold hadP
  rw [e.2.2.2.1]
theorem I4_le {S : S9} {B C : Int} (h : B ≤ C) (a : I4 S B) : I4 S C := ⟨a.1, a.2.1, IB_le h a.2.2.1, a.2.2.2⟩
theorem RC_row9 {S : S9} {h : zH} {a : Nat} {i v : Int} (ha : a = 6 ∨ a = 7 ∨ a = 99) (hN : IN S) (a9 : RC S h) : RC S (sa h a i v) := RC_fr (fun m m2 m5 => eqAt_sa (by omega)) (fun m m1 _ => eqAt_sa (by omega)) hN a9
theorem LW_st {S S' : S9} {ns nc : Int} {h h' : zH} (a : LW S ns nc h) (fr : FQ h h') (e : ∀ f, (f = 1 ∨ f = 2 ∨ f = 4 ∨ f = 35) → ∀ j, S' f j = S f j) : LW S' ns nc h' := by
  obtain ⟨⟨b1, b2⟩, ⟨r1, r2, r3⟩, ⟨w1, w2, w3⟩, d1, d2⟩ := a
  obtain ⟨x1, x2, -, x4, -⟩ := fr 6 (by decide)
  obtain ⟨y1, y2, -, y4, -⟩ := fr 7 (by decide)
  obtain ⟨z1, z2, -⟩ := fr 99 (by decide)
  exact ⟨⟨(e 1 (by omega) 0).trans b1, (e 2 (by omega) 0).trans b2⟩, ⟨x1.trans r1, x2.trans r2, fun c c0 c1 => by rw [x4, e 35 (by omega)]; exact r3 c c0 c1⟩, ⟨y1.trans w1, y2.trans w2, fun q q0 q1 => by rw [y4, e 4 (by omega)]; exact w3 q q0 q1⟩, z1.trans d1, z2.trans d2⟩
/-- behind calls that leave the law's rows -/
theorem LJ_st {S S' : S9} {B B' ns nc : Int} {h h' : zH} (a : LJ S B ns nc h) (fr : FQ h h') (hR : RC S' h') (i : I4 S' B') (b : IBt S') (hB : B ≤ B') (e : ∀ f, (f = 1 ∨ f = 2 ∨ f = 4 ∨ f = 35) → ∀ j, S' f j = S f j) (hd : HD S' (hadP h)) : LJ S' B' ns nc h' :=
  ⟨hR, i, b, by have := a.2.2.2.1; omega, LW_st a.2.2.2.2.1 fr e, by rw [had_at (fr 99 (by decide))]; exact hd⟩
/-- a colour had -/
theorem had_set {h : zH} {v : Int} (h0 : 0 ≤ v ∧ v < 256) : hadP (sa h 99 v 1) v := ⟨h0, z3_eq⟩
theorem had_le {h : zH} {i v : Int} (h1 : hadP h v) : hadP (sa h 99 i 1) v := by
  refine ⟨h1.1, ?_⟩
  show z3 (za h) 99 i 1 99 v = 1
  unfold z3
  split
  · rfl
  · exact h1.2
theorem LW_had {S : S9} {ns nc v : Int} {h : zH} (a : LW S ns nc h) : LW S ns nc (sa h 99 v 1) := by
  obtain ⟨b, ⟨r1, r2, r3⟩, ⟨w1, w2, w3⟩, d⟩ := a
  exact ⟨b, ⟨r1, r2, fun c c0 c1 => (za_nn (by decide)).trans (r3 c c0 c1)⟩, ⟨w1, w2, fun q q0 q1 => (za_nn (by decide)).trans (w3 q q0 q1)⟩, d⟩
theorem LW_win {S : S9} {ns nc q v : Int} {h : zH} (a : LW S ns nc h) (hv : v = S 4 q) : LW S ns nc (sa h 7 q v) := by
  obtain ⟨b, ⟨r1, r2, r3⟩, ⟨w1, w2, w3⟩, d⟩ := a
  refine ⟨b, ⟨r1, r2, fun c c0 c1 => (za_nn (by decide)).trans (r3 c c0 c1)⟩, ⟨w1, w2, fun p p0 p1 => ?_⟩, d⟩
  show z3 (za h) 7 q v 7 p = S 4 p
  unfold z3
  split
  · rename_i e
    rw [e.2, hv]
  · exact w3 p p0 p1
theorem LJ_win {S : S9} {B ns nc q v : Int} {h : zH} (a : LJ S B ns nc h) (hv : v = S 4 q) : LJ S B ns nc (sa h 7 q v) := by
  obtain ⟨a1, a2, a3, a4, a5, a6⟩ := a
  exact ⟨RC_row9 (Or.inr (Or.inl rfl)) a2.1.1 a1, a2, a3, a4, LW_win a5 hv, by rw [had_at (eqAt_sa (by decide))]; exact a6⟩
/-- a window opened -/
theorem LJ_open {S : S9} {B ns nc q x y a b : Int} {h h1 : zH} (hJ : LJ S B ns nc h) (hR2 : RC (opW S q x y a b) h1) (qf : FQ h h1) (q0 : 0 ≤ q) (q1 : q < ns) (h6 : S 4 q < 6) (hr : (-5 ≤ x ∧ x ≤ 11) ∧ (-5 ≤ y ∧ y ≤ 7) ∧ (1 ≤ a ∧ a ≤ 12) ∧ (1 ≤ b ∧ b ≤ 8)) : LJ (opW S q x y a b) (B + 20000) ns nc (sa h1 7 q (S 4 q + 1)) := by
  obtain ⟨hR, hI4, hbt, hB0, ⟨⟨hb1, hb2⟩, ⟨r1, r2, r3⟩, ⟨w1, w2, w3⟩, d1, d2⟩, hd⟩ := hJ
  have hi := I4_openWindow hI4 (s := q) q0 (by omega) h6 hr.1 hr.2.1 hr.2.2.1 hr.2.2.2
  obtain ⟨x1, x2, -, x4, -⟩ := qf 6 (by decide)
  obtain ⟨y1, y2, -, y4, -⟩ := qf 7 (by decide)
  obtain ⟨z1, z2, -⟩ := qf 99 (by decide)
  refine ⟨RC_row9 (Or.inr (Or.inl rfl)) hi.1.1 hR2, I4_le (by omega) hi, IBt_opW hbt, by omega, ⟨⟨by rw [opW_f (by decide)]; exact hb1, by rw [opW_f (by decide)]; exact hb2⟩, ⟨x1.trans r1, x2.trans r2, fun c c0 c1 => ?_⟩, ⟨y1.trans w1, y2.trans w2, fun p p0 p1 => ?_⟩, z1.trans d1, z2.trans d2⟩, ?_⟩
  · rw [opW_f (by decide)]
    exact (za_nn (by decide)).trans ((x4 c).trans (r3 c c0 c1))
  · rw [opW_g (by decide), if_pos rfl]
    show z3 (za h1) 7 q (S 4 q + 1) 7 p = _
    unfold z3
    by_cases e : p = q
    · rw [if_pos ⟨rfl, e⟩, if_pos e]
    · rw [if_neg (fun z => e z.2), if_neg e]
      exact (y4 p).trans (w3 p p0 p1)
  · rw [had_at (eqAt_sa (by decide)), had_at (qf 99 (by decide))]
    exact HD_ag (fun f9 hf j => opW_f (by omega)) hd
/-- a rectangle drawn, and a cell of it -/
theorem LJ_draw {S S2 : S9} {B B' ns nc col w9 : Int} {h h' : zH} (hJ : LJ S B ns nc h) (hW : LW S ns nc h') (hle : ∀ v, hadP h v → hadP h' v) (e143 : ∀ f9, f9 ≠ 14 → ∀ j, drawS S2 w9 0 0 1 1 col f9 j = S f9 j) (hR3 : RC (drawS S2 w9 0 0 1 1 col) h') (i : I4 (drawS S2 w9 0 0 1 1 col) B') (b : IBt (drawS S2 w9 0 0 1 1 col)) (hB : B ≤ B') (hc : 0 ≤ col ∧ col ≤ 255) (e2 : ∃ x y a b9 : Int, S2 = drawS S w9 x y a b9 col) : LJ (drawS S2 w9 0 0 1 1 col) B' ns nc (sa h' 99 col 1) := by
  obtain ⟨x, y, a, b9, rfl⟩ := e2
  have hc1 : hadP (sa h' 99 col 1) col := had_set (by omega)
  exact ⟨RC_row9 (Or.inr (Or.inr rfl)) i.1.1 hR3, i, b, by have := hJ.2.2.2.1; omega, LW_had (LW_st hW (fun _ _ => eqAt_rf) (fun f9 hf j => e143 f9 (by omega) j)), HD_draw hc1 (HD_draw hc1 (HD_le (fun v hv => had_le (hle v hv)) hJ.2.2.2.2.2))⟩
