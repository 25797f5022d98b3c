/-! a client's change: rectangles summed column by column -/
def rcK (P R : Int → Int) (p aw x y : Int) : Int := gn P R (p + y * 12 + x) (if aw = 0 then R p else P (p + y * 12 + x + aw))
def rcC (P R : Int → Int) (p aw x t : Int) : Int := sg (fun y => rcK P R p aw x y) t.toNat
def rcG (P R : Int → Int) (p aw w t : Int) : Int := sg (fun x => rcC P R p aw x t) w.toNat
theorem sg_bd {f : Int → Int} {a : Int} (h : ∀ i, 0 ≤ i → -a ≤ f i ∧ f i ≤ a) : ∀ n : Nat, -(a * n) ≤ sg f n ∧ sg f n ≤ a * n
  | 0 => by simp [sg]
  | n + 1 => by
    have h1 := sg_bd h n
    have h2 := h n (by omega)
    have h3 : a * ((n + 1 : Nat) : Int) = a * n + a := by
      rw [Int.natCast_add, Int.mul_add]
      simp
    unfold sg
    omega
theorem rcC_in {P R : Int → Int} {p aw x t : Int} (t0 : 0 ≤ t) (t8 : t ≤ 8) : -8 ≤ rcC P R p aw x t ∧ rcC P R p aw x t ≤ 8 := by
  have := sg_pm (f := fun y => rcK P R p aw x y) (fun _ _ => gn_in _ _ _ _) t.toNat
  unfold rcC
  omega
theorem rcG_in {P R : Int → Int} {p aw w t : Int} (w0 : 0 ≤ w) (w12 : w ≤ 12) (t0 : 0 ≤ t) (t8 : t ≤ 8) : -96 ≤ rcG P R p aw w t ∧ rcG P R p aw w t ≤ 96 := by
  have := sg_bd (f := fun x => rcC P R p aw x t) (a := 8) (fun _ _ => rcC_in t0 t8) w.toNat
  unfold rcG
  omega
theorem rcC_0 {P R : Int → Int} {p aw x : Int} : rcC P R p aw x 0 = 0 := rfl
theorem rcG_0 {P R : Int → Int} {p aw t : Int} : rcG P R p aw 0 t = 0 := rfl
theorem rcC_s {P R : Int → Int} {p aw x t : Int} (h : 0 ≤ t) : rcC P R p aw x (t + 1) = rcC P R p aw x t + rcK P R p aw x t := sg_s h
theorem rcG_s {P R : Int → Int} {p aw w t : Int} (h : 0 ≤ w) : rcG P R p aw (w + 1) t = rcG P R p aw w t + rcC P R p aw w t := sg_s h
theorem sg_add {f : Int → Int} (a : Nat) : ∀ b : Nat, sg f (a + b) = sg f a + sg (fun i => f (a + i)) b
  | 0 => by simp [sg]
  | b + 1 => by
    show sg f (a + b) + f ((a + b : Nat) : Int) = sg f a + (sg (fun i => f (a + i)) b + f (a + b))
    rw [sg_add a b, Int.natCast_add]
    omega
theorem sg_plus {f g : Int → Int} : ∀ n : Nat, sg (fun i => f i + g i) n = sg f n + sg g n
  | 0 => rfl
  | n + 1 => by
    have h := sg_plus (f := f) (g := g) n
    unfold sg
    omega
/-- a rectangle's sum, row by row, is its sum column by column -/
theorem sg_rect {f : Int → Int → Int} {w : Nat} (hw : 0 < w) : ∀ t : Nat, sg (fun k => f (k % w) (k / w)) (w * t) = sg (fun x => sg (fun y => f x y) t) w
  | 0 => by
    show sg _ 0 = _
    have : ∀ n : Nat, sg (fun x => sg (fun y => f x y) 0) n = 0 := fun n => sg_z n (fun _ _ _ => rfl)
    rw [this]
    rfl
  | t + 1 => by
    rw [Nat.mul_succ, sg_add, sg_rect hw t]
    have e1 : sg (fun x => sg (fun y => f x y) (t + 1)) w = sg (fun x => sg (fun y => f x y) t + f x t) w := sg_eq w (fun _ _ _ => rfl)
    rw [e1, sg_plus]
    congr 1
    refine sg_eq w (fun i i0 i1 => ?_)
    have d := div_uniq (w := (w : Int)) (x := (i : Int)) (y := (t : Int)) (by omega) (by omega)
    show f ((((w * t : Nat) : Int) + i) % w) ((((w * t : Nat) : Int) + i) / w) = f i t
    rw [Int.natCast_mul, Int.mul_comm (w : Int) (t : Int), d.1, d.2]
theorem sg_rectI {f : Int → Int → Int} {w t : Int} (hw : 0 < w) (ht : 0 ≤ t) : sg (fun k => f (k % w) (k / w)) (w * t).toNat = sg (fun x => sg (fun y => f x y) t.toNat) w.toNat := by
  have h := sg_rect (f := f) (w := w.toNat) (by omega) t.toNat
  rw [show ((w.toNat : Nat) : Int) = w by omega] at h
  rw [show (w * t).toNat = w.toNat * t.toNat from Int.toNat_mul (by omega) ht]
  exact h
theorem gC_rc {P R : Int → Int} {p w t aw : Int} (hw : 0 < w) (ht : 0 ≤ t) (ha : aw ≠ 0) : gC P R p w t aw = rcG P R p aw w t := by
  have h := sg_rectI (f := fun x y => rcK P R p aw x y) hw ht
  show _ = sg (fun x => sg (fun y => rcK P R p aw x y) t.toNat) w.toNat
  rw [← h]
  refine sg_eq _ (fun i _ _ => ?_)
  show _ = rcK P R p aw (i % w) (i / w)
  unfold rcK
  rw [if_neg ha]
theorem gF_rc {P R : Int → Int} {p w t : Int} (hw : 0 < w) (ht : 0 ≤ t) : gF P R p w t = rcG P R p 0 w t := by
  have h := sg_rectI (f := fun x y => rcK P R p 0 x y) hw ht
  show _ = sg (fun x => sg (fun y => rcK P R p 0 x y) t.toNat) w.toNat
  rw [← h]
  refine sg_eq _ (fun i _ _ => ?_)
  show _ = rcK P R p 0 (i % w) (i / w)
  unfold rcK
  rw [if_pos rfl]
/-- the best in the class's object n: b, or none while b gains nothing -/
def CBr (h : zH) (n : Nat) (b : T6) : Prop := bnd b ∧ ((zf h 104 n = 32 ∧ zf h 105 n = 1 ∧ zf h 106 n = 0 ∧ (b.2.1 = 0 ∨ b.2.2.1 ≤ 0)) ∨ (3 ≤ b.2.1 ∧ 0 < b.2.2.1 ∧ zf h 104 n = b.1 ∧ zf h 105 n = b.2.1 ∧ zf h 106 n = b.2.2.1 ∧ zf h 109 n = b.2.2.2.1 ∧ zf h 110 n = b.2.2.2.2.1 ∧ zf h 108 n = b.2.2.2.2.2))
theorem CBr_at {h h' : zH} {n : Nat} {b : T6} (e : ∀ i, i ≠ 107 → zf h' i n = zf h i n) (a : CBr h n b) : CBr h' n b := by
  unfold CBr at a ⊢
  rw [e 104 (by decide), e 105 (by decide), e 106 (by decide), e 108 (by decide), e 109 (by decide), e 110 (by decide)]
  exact a
theorem CBr_co {h : zH} {n : Nat} {b : T6} (a : CBr h n b) : ∃ co ga, zf h 105 n = co ∧ zf h 106 n = ga ∧ 1 ≤ co ∧ co ≤ 20 ∧ -100 ≤ ga ∧ ga ≤ 100 := by
  obtain ⟨a0, a1⟩ := a
  refine ⟨_, _, rfl, rfl, ?_⟩
  rcases a1 with z | z
  · omega
  · rcases a0 with y | y <;> omega
/-- one more is considered -/
theorem CBr_no {h : zH} {n : Nat} {b : T6} {t k g w d r co ga : Int} (a : CBr h n b) (e5 : zf h 105 n = co) (e6 : zf h 106 n = ga) (hk : 3 ≤ k ∧ k ≤ 20) (hg : -100 ≤ g ∧ g ≤ 100) (z : ¬ ga * k < g * co) : CBr h n (tr b (t, k, g, w, d, r)) := by
  obtain ⟨a0, a1⟩ := a
  refine ⟨bnd_tr a0 (Or.inr ⟨hk.1, hk.2, hg.1, hg.2⟩), ?_⟩
  rcases a1 with ⟨b1, b2, b3, b4⟩ | ⟨b1, b2, b3, b4, b5, b6⟩
  · rw [b2] at e5
    rw [b3] at e6
    subst e5 e6
    have hg0 : g ≤ 0 := by omega
    refine Or.inl ⟨b1, b2, b3, ?_⟩
    unfold tr
    split
    · exact Or.inr hg0
    · exact b4
  · rw [b4] at e5
    rw [b5] at e6
    subst e5 e6
    have e : tr b (t, k, g, w, d, r) = b := by
      unfold tr
      rw [if_neg]
      rintro (y | y)
      · omega
      · exact z y
    rw [e]
    exact Or.inr ⟨b1, b2, b3, b4, b5, b6⟩
theorem CBr_ye {h : zH} {n : Nat} {b : T6} {t k g w d r co ga : Int} (a : CBr h n b) (e5 : zf h 105 n = co) (e6 : zf h 106 n = ga) (hk : 3 ≤ k ∧ k ≤ 20) (hg : -100 ≤ g ∧ g ≤ 100) (z : ga * k < g * co) : CBr (sf (sf (sf (sf (sf (sf h 104 n t) 106 n g) 105 n k) 108 n r) 109 n w) 110 n d) n (tr b (t, k, g, w, d, r)) := by
  obtain ⟨a0, a1⟩ := a
  have e : tr b (t, k, g, w, d, r) = (t, k, g, w, d, r) ∧ 0 < g := by
    rcases a1 with ⟨b1, b2, b3, b4⟩ | ⟨b1, b2, b3, b4, b5, b6⟩
    · rw [b2] at e5
      rw [b3] at e6
      subst e5 e6
      have hg0 : 0 < g := by omega
      refine ⟨?_, hg0⟩
      unfold tr
      rw [if_pos]
      rcases b4 with y | y
      · exact Or.inl y
      · by_cases x : b.2.1 = 0
        · exact Or.inl x
        · refine Or.inr ?_
          show b.2.2.1 * k < g * b.2.1
          have h1 : b.2.2.1 * k ≤ 0 := Int.mul_nonpos_of_nonpos_of_nonneg y (by omega)
          have h2 : 0 < g * b.2.1 := Int.mul_pos hg0 (by rcases a0 with v | v <;> omega)
          omega
    · rw [b4] at e5
      rw [b5] at e6
      subst e5 e6
      refine ⟨?_, ?_⟩
      · unfold tr
        rw [if_pos (Or.inr z)]
      · have h1 : 0 < b.2.2.1 * k := Int.mul_pos b2 (by omega)
        have h2 : 0 < g * b.2.1 := by omega
        exact Int.pos_of_mul_pos_left (b := b.2.1) h2 (by omega)
  rw [e.1]
  refine ⟨Or.inr ⟨hk.1, hk.2, hg.1, hg.2⟩, Or.inr ⟨hk.1, e.2, ?_⟩⟩
  simp [s_ff]
/-- a client's change with its rows -/
def RCh (S : S9) (h : zH) (c : Int) : Prop := RPc S h c ∧ (zr h 102 (nC c + 1) = some (nC c + 3) ∧ zr h 103 (nC c + 1) = some (nC c + 4)) ∧ (zK h (nC c + 3) = 100 ∧ zN h (nC c + 3) = 96) ∧ zK h (nC c + 4) = 100 ∧ zN h (nC c + 4) = 9
/-- .. as it stays while the change is sought -/
theorem RCh_sf {S : S9} {h : zH} {c : Int} {i : Nat} {v : Int} (a : RCh S h c) : RCh S (sf h i (nC c + 1) v) c := a
theorem RCh_at {S : S9} {h h' : zH} {c : Int} (e1 : eqAt (nC c + 1) h h') (e2 : eqAt (nC c + 2) h h') (e3 : eqAt (nC c + 3) h h') (e4 : eqAt (nC c + 4) h h') (a : RCh S h c) : RCh S h' c := by
  obtain ⟨a1, a2, a3, a4⟩ := a
  obtain ⟨-, -, -, -, b5, -⟩ := id e1
  refine ⟨RPc_at e1 e2 a1, ?_, ⟨e3.1.trans a3.1, e3.2.1.trans a3.2⟩, e4.1.trans a4.1, e4.2.1.trans a4.2⟩
  rw [b5, b5]
  exact a2
/-- the screen's row is another's -/
theorem nSC {c s : Int} {j k : Nat} (c1 : c < 6) (s0 : 0 ≤ s) (s1 : s < 4) (hj : j ≤ 18) (hk : k ≤ 9) : nS s + j ≠ nC c + k := by
  unfold nS nC
  omega
theorem Cq_sf {h : zH} {c s v : Int} {i : Nat} {q : Int → Int} (a : RCo h s q) : RCo (sf h i (nC c + 1) v) s q := a
theorem Cq_sa {h : zH} {c s v i : Int} {q : Int → Int} (hc : c < 6) (s0 : 0 ≤ s) (s1 : s < 4) {k : Nat} (hk : k ≤ 9) (a : RCo h s q) : RCo (sa h (nC c + k) i v) s q := RCo_at (eqAt_sa (nSC hc s0 s1 (by decide) hk)) a
theorem RPc_sa {S : S9} {h : zH} {c v i : Int} {k : Nat} (hk : 3 ≤ k) (a : RPc S h c) : RPc S (sa h (nC c + k) i v) c := RPc_at (eqAt_sa (by omega)) (eqAt_sa (by omega)) a
theorem RCh_sa {S : S9} {h : zH} {c v i : Int} {k : Nat} (hk : 3 ≤ k) (a : RCh S h c) : RCh S (sa h (nC c + k) i v) c := ⟨RPc_sa hk a.1, a.2⟩
/-- a contract says less -/
theorem zC_mono {l : Launch} {Y : zM} {As : List zV} {h : zH} {Q Q' : zO → zH → Prop} (hc : zC l Y As h Q) (hQ : ∀ o h', Q o h' → Q' o h') : zC l Y As h Q' := by
  intro D dA ad sz p e ha hc2 hk s m args below hf happ hP hK
  obtain ⟨t, o, a1, a2, a3, hq⟩ := hc D dA ad sz p e ha hc2 hk s m args below hf happ hP hK
  refine ⟨t, o, a1, a2, a3, ?_⟩
  rcases hq with ⟨⟨⟨v, h', ad', b1, b2, b3⟩, b4⟩, b5⟩ | ⟨q, c1, E, ce, L, ⟨⟨h', ad', d1, d2⟩, d3⟩, d4⟩
  · exact Or.inl ⟨⟨⟨v, h', ad', b1, hQ _ _ b2, b3⟩, b4⟩, b5⟩
  · exact Or.inr ⟨q, c1, E, ce, L, ⟨⟨h', ad', hQ _ _ d1, d2⟩, d3⟩, d4⟩
/-- what one more considered leaves as it was -/
def keepB (S : S9) (h h' : zH) (c : Int) : Prop := (∀ m, m ≠ nC c + 1 → eqAt m h h') ∧ (RCh S h c → RCh S h' c) ∧ zf h' 107 (nC c + 1) = zf h 107 (nC c + 1) ∧ zK h' (nC c + 1) = zK h (nC c + 1)
theorem c_X0_considerB {l : Launch} (hl : l.stackTraces = false) {S : S9} {h : zH} {c : Int} (k0 : zK h (nC c + 1) = 2) {b : T6} (hB : CBr h (nC c + 1) b) (t g k a w d : Int) (ht : 0 ≤ t ∧ t ≤ 65535) (hg : -100 ≤ g ∧ g ≤ 100) (hk : 3 ≤ k ∧ k ≤ 20) (ha : zin a) (hw : zin w) (hd : zin d) : zC l MX0_consider [zR (some (nC c + 1)), zI t, zI g, zI k, zI a, zI w, zI d] h (fun o h' => o = .inl none ∧ CBr h' (nC c + 1) (tr b (t, k, g, w, d, a)) ∧ keepB S h h' c) := by
  obtain ⟨co, ga, e5, e6, q1, q2, q3, q4⟩ := CBr_co hB
  have m1 := mul_bd hg.1 hg.2 (show 0 ≤ co by omega) q2
  have m2 := mul_bd q3 q4 (show 0 ≤ k by omega) hk.2
  refine zC_mono (c_X0_consider hl _ k0 co ga t g k a w d e5 e6 ht (by omega) (by omega) ha hw hd (by omega) (by omega)) (fun o h' q => ?_)
  obtain ⟨z1, z2⟩ := q
  refine ⟨z1, ?_, ?_⟩
  · rw [z2]
    split
    · rename_i y
      exact CBr_ye hB e5 e6 hk hg y
    · rename_i y
      exact CBr_no hB e5 e6 hk hg y
  · rw [z2]
    split
    · refine ⟨fun m hm => ?_, fun y => y, ?_, rfl⟩
      · exact eqAt_tr (eqAt_tr (eqAt_tr (eqAt_tr (eqAt_tr (eqAt_sf hm) (eqAt_sf hm)) (eqAt_sf hm)) (eqAt_sf hm)) (eqAt_sf hm)) (eqAt_sf hm)
      · simp [s_ff]
    · exact ⟨fun _ _ => eqAt_rf, fun y => y, rfl, rfl⟩
theorem runR_at {P R : Int → Int} {p i : Int} (i0 : 0 ≤ i) (i1 : i < 12 - p % 12) : runR P R p (12 - p % 12 - i).toNat = if P (p + i) = R (p + i) then i else runR P R p (12 - p % 12 - (i + 1)).toNat := by
  rw [show (12 - p % 12 - i).toNat = (12 - p % 12 - (i + 1)).toNat + 1 by omega, runR_s, show 12 - p % 12 - ((((12 - p % 12 - (i + 1)).toNat : Nat) : Int) + 1) = i by omega]
theorem fstR_at {P R : Int → Int} {i : Int} (i0 : 0 ≤ i) (i1 : i < 96) : fstR P R (96 - i).toNat = if P i = R i then fstR P R (96 - (i + 1)).toNat else i := by
  rw [show (96 - i).toNat = (96 - (i + 1)).toNat + 1 by omega, fstR_s, show 96 - ((((96 - (i + 1)).toNat : Nat) : Int) + 1) = i by omega]
theorem cpH_s (P R : Int → Int) (p a w : Int) (b : T6) (n : Nat) : cpH P R p a w b (n + 1) = if cOk p a w ((n : Int) + 1) then tr (cpH P R p a w b n) (99, 6, gC P R p w ((n : Int) + 1) (cBy a), w, (n : Int) + 1, cBy a) else cpH P R p a w b n := rfl
theorem cpW_s (P R : Int → Int) (p a : Int) (b : T6) (n : Nat) : cpW P R p a b (n + 1) = cpH P R p a ((n : Int) + 2) (cpW P R p a b n) 4 := rfl
theorem cpA_s (P R : Int → Int) (p : Int) (b : T6) (n : Nat) : cpA P R p b (n + 1) = if n = 12 then cpA P R p b n else cpW P R p n (cpA P R p b n) 5 := rfl
theorem flH_s (P R : Int → Int) (p w : Int) (b : T6) (n : Nat) : flH P R p w b (n + 1) = if vld (p % 12) (p / 12) w ((n : Int) + 1) then tr (flH P R p w b n) (102, 5, gF P R p w ((n : Int) + 1), w, (n : Int) + 1, 0) else flH P R p w b n := rfl
theorem flW_s (P R : Int → Int) (p : Int) (b : T6) (n : Nat) : flW P R p b (n + 1) = flH P R p ((n : Int) + 1) (flW P R p b n) 8 := rfl
theorem cpH_stop {P R : Int → Int} {p a w : Int} {b : T6} (n : Nat) : ∀ m : Nat, (∀ k : Nat, n ≤ k → k < n + m → ¬ cOk p a w ((k : Int) + 1)) → cpH P R p a w b (n + m) = cpH P R p a w b n
  | 0, _ => rfl
  | m + 1, h => by
    show cpH P R p a w b (n + m + 1) = _
    rw [cpH_s, if_neg (h (n + m) (by omega) (by omega))]
    exact cpH_stop n m (fun k k0 k1 => h k k0 (by omega))
theorem flH_stop {P R : Int → Int} {p w : Int} {b : T6} (n : Nat) : ∀ m : Nat, (∀ k : Nat, n ≤ k → k < n + m → ¬ vld (p % 12) (p / 12) w ((k : Int) + 1)) → flH P R p w b (n + m) = flH P R p w b n
  | 0, _ => rfl
  | m + 1, h => by
    show flH P R p w b (n + m + 1) = _
    rw [flH_s, if_neg (h (n + m) (by omega) (by omega))]
    exact flH_stop n m (fun k k0 k1 => h k k0 (by omega))
theorem cpW_stop {P R : Int → Int} {p a : Int} {b : T6} (n : Nat) : ∀ m : Nat, (∀ k : Nat, n ≤ k → k < n + m → ∀ t : Nat, ¬ cOk p a ((k : Int) + 2) ((t : Int) + 1)) → cpW P R p a b (n + m) = cpW P R p a b n
  | 0, _ => rfl
  | m + 1, h => by
    show cpW P R p a b (n + m + 1) = _
    rw [cpW_s]
    exact (cpH_stop 0 4 (fun k _ _ => h (n + m) (by omega) (by omega) k)).trans (cpW_stop n m (fun k k0 k1 => h k k0 (by omega)))
theorem flW_stop {P R : Int → Int} {p : Int} {b : T6} (n : Nat) : ∀ m : Nat, (∀ k : Nat, n ≤ k → k < n + m → ∀ t : Nat, ¬ vld (p % 12) (p / 12) ((k : Int) + 1) ((t : Int) + 1)) → flW P R p b (n + m) = flW P R p b n
  | 0, _ => rfl
  | m + 1, h => by
    show flW P R p b (n + m + 1) = _
    rw [flW_s]
    exact (flH_stop 0 8 (fun k _ _ => h (n + m) (by omega) (by omega) k)).trans (flW_stop n m (fun k k0 k1 => h k k0 (by omega)))
/-- how the best goes on, width by width, height by height -/
def stB (P R : Int → Int) (p aw ww hh : Int) (B : Int → Int → T6) (b r : T6) : Prop :=
  B 1 1 = b ∧ (aw = 0 → ∀ i j, 1 ≤ i → i ≤ ww → 1 ≤ j → j ≤ hh → B i (j + 1) = tr (B i j) (102, 5, rcG P R p aw i j, i, j, aw))
  ∧ (aw ≠ 0 → ∀ i j, 2 ≤ i → i ≤ ww → 1 ≤ j → j ≤ hh → B i (j + 1) = tr (B i j) (99, 6, rcG P R p aw i j, i, j, aw))
  ∧ (aw ≠ 0 → ∀ i j, i = 1 → i ≤ ww → 1 ≤ j → j ≤ hh → B i (j + 1) = B i j)
  ∧ (∀ i j, 1 ≤ i → i ≤ ww → 1 ≤ j → hh < j → (j = 1 ∨ j ≤ hh + 1) → B i j = B (i + 1) 1)
  ∧ ∀ i, 1 ≤ i → ww < i → (i = 1 ∨ i ≤ ww + 1) → B i 1 = r
theorem stB_cp {P R : Int → Int} {p ra ca ww hh : Int} {b : T6} (p0 : 0 ≤ p) (p1 : p < 96) (hra : -2 ≤ ra ∧ ra ≤ 2) (hca : -2 ≤ ca ∧ ca ≤ 2) (hz : ra ≠ 0 ∨ ca ≠ 0) (h1 : 0 ≤ p / 12 + ra) (h2 : 0 ≤ p % 12 + ca)
    (w1 : (ww ≤ 6 ∧ ww ≤ 12 - p % 12 ∧ ww ≤ 12 - (p % 12 + ca) ∧ (ww = 6 ∨ ww = 12 - p % 12 ∨ ww = 12 - (p % 12 + ca))) ∧ hh ≤ 4 ∧ hh ≤ 8 - p / 12 ∧ hh ≤ 8 - (p / 12 + ra) ∧ (hh = 4 ∨ hh = 8 - p / 12 ∨ hh = 8 - (p / 12 + ra))) :
    stB P R p (ra * 12 + ca) ww hh (fun i j => if i ≤ 1 then b else cpH P R p (5 * (ra + 2) + (ca + 2)) i (cpW P R p (5 * (ra + 2) + (ca + 2)) b (i - 2).toNat) (j - 1).toNat) b (cpW P R p (5 * (ra + 2) + (ca + 2)) b 5) := by
  obtain ⟨a, ha⟩ : ∃ a, a = 5 * (ra + 2) + (ca + 2) := ⟨_, rfl⟩
  rw [← ha]
  have ha5 : a / 5 - 2 = ra := by omega
  have ha6 : a % 5 - 2 = ca := by omega
  have hby : cBy a = ra * 12 + ca := by
    show (a / 5 - 2) * 12 + a % 5 - 2 = ra * 12 + ca
    omega
  have ok : ∀ w t : Int, 1 ≤ w → 1 ≤ t → (cOk p a w t ↔ (w ≤ 12 - p % 12 ∧ w ≤ 12 - (p % 12 + ca)) ∧ t ≤ 8 - p / 12 ∧ t ≤ 8 - (p / 12 + ra)) := by
    intro w t hw ht
    show (_ ∧ _) ↔ _
    omega
  have stp : ∀ i : Int, 2 ≤ i → i ≤ 6 → (ww < i ∨ hh < 1) → ∀ c : T6, cpH P R p a i c 4 = c := by
    intro i i2 i6 hi c
    exact cpH_stop 0 4 (fun k _ _ => by rw [ok _ _ (by omega) (by omega)]; omega)
  have nx : ∀ i j : Int, 2 ≤ i → i ≤ ww → 1 ≤ j → hh < j → (j = 1 ∨ j ≤ hh + 1) → cpH P R p a i (cpW P R p a b (i - 2).toNat) (j - 1).toNat = cpW P R p a b (i - 1).toNat := by
    intro i j i2 iw j1 jh hj
    rw [show (i - 1).toNat = (i - 2).toNat + 1 by omega, cpW_s, show (((i - 2).toNat : Nat) : Int) + 2 = i by omega]
    by_cases y : hh < 1
    · rw [stp i i2 (by omega) (Or.inr y), show (j - 1).toNat = 0 by omega]
      rfl
    · have e := cpH_stop (P := P) (R := R) (p := p) (a := a) (w := i) (b := cpW P R p a b (i - 2).toNat) (j - 1).toNat (4 - (j - 1).toNat) (fun k hk _ => by rw [ok _ _ (by omega) (by omega)]; omega)
      rw [show (j - 1).toNat + (4 - (j - 1).toNat) = 4 by omega] at e
      exact e.symm
  refine ⟨if_pos (by decide), fun z => absurd z (by omega), fun _ i j i2 iw j1 jh => ?_, fun _ i j i1 iw j1 jh => ?_, fun i j i1 iw j1 jh hj => ?_, fun i i1 iw hi => ?_⟩
  · show (if i ≤ 1 then b else _) = tr (if i ≤ 1 then b else _) _
    rw [if_neg (by omega), if_neg (by omega), show (j + 1 - 1).toNat = (j - 1).toNat + 1 by omega, cpH_s, show (((j - 1).toNat : Nat) : Int) + 1 = j by omega, if_pos ((ok i j (by omega) j1).mpr (by omega)), gC_rc (by omega) (by omega) (by rw [hby]; omega), hby]
  · show (if i ≤ 1 then b else _) = if i ≤ 1 then b else _
    rw [if_pos (by omega), if_pos (by omega)]
  · show (if i ≤ 1 then b else _) = if i + 1 ≤ 1 then b else _
    rw [if_neg (show ¬ i + 1 ≤ 1 by omega)]
    show _ = cpH P R p a (i + 1) (cpW P R p a b (i + 1 - 2).toNat) 0
    by_cases z : i ≤ 1
    · rw [if_pos z, show (i + 1 - 2).toNat = 0 by omega]
      rfl
    · rw [if_neg z, nx i j (by omega) iw j1 jh hj, show (i + 1 - 2).toNat = (i - 1).toNat by omega]
      rfl
  · show (if i ≤ 1 then b else _) = _
    by_cases z : i ≤ 1
    · rw [if_pos z]
      exact (cpW_stop 0 5 (fun k _ _ t => by rw [ok _ _ (by omega) (by omega)]; omega)).symm
    · rw [if_neg z]
      show cpH P R p a i (cpW P R p a b (i - 2).toNat) 0 = _
      have e := cpW_stop (P := P) (R := R) (p := p) (a := a) (b := b) (i - 2).toNat (5 - (i - 2).toNat) (fun k hk _ t => by rw [ok _ _ (by omega) (by omega)]; omega)
      rw [show (i - 2).toNat + (5 - (i - 2).toNat) = 5 by omega] at e
      exact e.symm
theorem cp_ret {P R : Int → Int} {p ra ca : Int} {b : T6} (p0 : 0 ≤ p) (p1 : p < 96) (hra : -2 ≤ ra ∧ ra ≤ 2) (hca : -2 ≤ ca ∧ ca ≤ 2) (h : p / 12 + ra < 0 ∨ p % 12 + ca < 0) : cpW P R p (5 * (ra + 2) + (ca + 2)) b 5 = b := by
  refine cpW_stop 0 5 (fun k _ _ t => ?_)
  show ¬ (_ ∧ _)
  omega
theorem stB_fl {P R : Int → Int} {p ww hh : Int} {b : T6} (p0 : 0 ≤ p) (p1 : p < 96) (w1 : ww = 12 - p % 12) (w2 : hh = 8 - p / 12) :
    stB P R p 0 ww hh (fun i j => flH P R p i (flW P R p b (i - 1).toNat) (j - 1).toNat) b (flW P R p b 12) := by
  have stp : ∀ i : Int, 1 ≤ i → ww < i → ∀ c : T6, flH P R p i c 8 = c := by
    intro i i2 hi c
    exact flH_stop 0 8 (fun k _ _ => by omega)
  refine ⟨rfl, fun _ i j i1 iw j1 jh => ?_, fun z => absurd rfl z, fun z => absurd rfl z, fun i j i1 iw j1 jh hj => ?_, fun i i1 iw hi => ?_⟩
  · show flH P R p i _ (j + 1 - 1).toNat = tr (flH P R p i _ (j - 1).toNat) _
    rw [show (j + 1 - 1).toNat = (j - 1).toNat + 1 by omega, flH_s, show (((j - 1).toNat : Nat) : Int) + 1 = j by omega, if_pos (by omega), gF_rc (by omega) (by omega)]
  · show flH P R p i (flW P R p b (i - 1).toNat) (j - 1).toNat = flW P R p b (i + 1 - 1).toNat
    rw [show (i + 1 - 1).toNat = (i - 1).toNat + 1 by omega, flW_s, show (((i - 1).toNat : Nat) : Int) + 1 = i by omega]
    have e := flH_stop (P := P) (R := R) (p := p) (w := i) (b := flW P R p b (i - 1).toNat) (j - 1).toNat (8 - (j - 1).toNat) (fun k hk _ => by omega)
    rw [show (j - 1).toNat + (8 - (j - 1).toNat) = 8 by omega] at e
    exact e.symm
  · show flW P R p b (i - 1).toNat = _
    have e := flW_stop (P := P) (R := R) (p := p) (b := b) (i - 1).toNat (12 - (i - 1).toNat) (fun k hk _ t => by omega)
    rw [show (i - 1).toNat + (12 - (i - 1).toNat) = 12 by omega] at e
    exact e.symm
theorem RCh_4 {S : S9} {h h' : zH} {c : Int} (f4 : ∀ m, m ≠ nC c + 4 → eqAt m h h') (f1 : zK h' (nC c + 4) = 100) (f2 : zN h' (nC c + 4) = 9) (a : RCh S h c) : RCh S h' c := by
  obtain ⟨a1, a2, a3, a4⟩ := a
  have e1 := f4 (nC c + 1) (by omega)
  have e3 := f4 (nC c + 3) (by omega)
  obtain ⟨-, -, -, -, b5, -⟩ := id e1
  refine ⟨RPc_at e1 (f4 (nC c + 2) (by omega)) a1, ?_, ⟨e3.1.trans a3.1, e3.2.1.trans a3.2⟩, f1, f2⟩
  rw [b5, b5]
  exact a2
