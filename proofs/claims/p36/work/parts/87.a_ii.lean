/-! what always holds is kept by the calls -/
theorem IO2_ag {S S' : S9} (h : ∀ f, (f = 4 ∨ f = 10 ∨ f = 15 ∨ f = 16) → ∀ j, S' f j = S f j) (a : IO2 S) : IO2 S' := by
  unfold IO2 hasW at a ⊢
  simp only [h 4 (by decide), h 10 (by decide), h 15 (by decide), h 16 (by decide)]
  exact a
theorem IB_ag {S S' : S9} {B : Int} (h : ∀ f, (f = 2 ∨ f = 28 ∨ f = 32 ∨ f = 33 ∨ f = 36 ∨ f = 37 ∨ f = 38 ∨ f = 39) → ∀ j, S' f j = S f j) (a : IB S B) : IB S' B := by
  unfold IB IG at a ⊢
  simp only [h 2 (by decide), h 28 (by decide), h 32 (by decide), h 33 (by decide), h 36 (by decide), h 37 (by decide), h 38 (by decide), h 39 (by decide)]
  exact a
theorem IZ_ag {S S' : S9} (h : ∀ f, (f = 1 ∨ f = 2 ∨ f = 4 ∨ f = 9 ∨ f = 12 ∨ f = 13 ∨ f = 14 ∨ f = 16 ∨ f = 17 ∨ f = 22 ∨ f = 23 ∨ f = 26 ∨ (28 ≤ f ∧ f ≤ 33) ∨ (37 ≤ f ∧ f ≤ 40)) → ∀ j, S' f j = S f j) (a : IZ S) : IZ S' := by
  unfold IZ at a ⊢
  simp only [h 1 (by decide), h 2 (by decide), h 4 (by decide), h 9 (by decide), h 12 (by decide), h 13 (by decide), h 14 (by decide), h 16 (by decide), h 17 (by decide), h 22 (by decide), h 23 (by decide), h 26 (by decide), h 28 (by decide), h 29 (by decide), h 30 (by decide), h 31 (by decide), h 32 (by decide), h 33 (by decide), h 37 (by decide), h 38 (by decide), h 39 (by decide), h 40 (by decide)]
  exact a
/-- all but the bits -/
def I4 (S : S9) (B : Int) : Prop := JJ S ∧ IO2 S ∧ IB S B ∧ IZ S
theorem II_4 {S : S9} {B : Int} (a : II S B) : I4 S B := ⟨a.1, a.2.1, a.2.2.1, a.2.2.2.1⟩
theorem I4_openSession {S : S9} {B : Int} (a : I4 S B) (h : S 1 0 < 4) : I4 (up S 1 0 (S 1 0 + 1)) B := by
  obtain ⟨⟨hN, hI, hO, hC, hK⟩, h2, hB, z1, z2, z3, z4, z5⟩ := a
  have e : ∀ f, f ≠ 1 → ∀ j, up S 1 0 (S 1 0 + 1) f j = S f j := fun f hf j => up_f hf
  have e1 : up S 1 0 (S 1 0 + 1) 1 0 = S 1 0 + 1 := up_eq
  refine ⟨⟨?_, IW_ag (fun f h4 h9 => e f (by omega)) hI, IO_ag (fun f hf => e f (by omega)) hO, ?_, IK_ag (fun f hf => e f (by omega)) hK⟩, IO2_ag (fun f hf => e f (by omega)) h2, IB_ag (fun f hf => e f (by omega)) hB, ?_, ?_, ?_, ?_, ?_⟩
  · obtain ⟨n1, n2, n3, n4, n5⟩ := hN
    unfold IN
    simp only [e1, e 2 (by decide), e 4 (by decide), e 16 (by decide), e 17 (by decide)]
    exact ⟨by omega, by omega, n3, n4, n5⟩
  · intro c c0 c1
    rw [e 2 (by decide)] at c1
    have := hC c c0 c1
    rw [e1, e 35 (by decide)]
    omega
  · simp only [e 31 (by decide), e 32 (by decide), e 33 (by decide)]
    exact z1
  · simp only [e1, e 4 (by decide), e 16 (by decide), e 17 (by decide), e 22 (by decide), e 26 (by decide), e 28 (by decide), e 29 (by decide), e 30 (by decide), e 31 (by decide)]
    exact fun s hs h4 => z2 s (by omega) h4
  · simp only [e 4 (by decide), e 9 (by decide), e 12 (by decide), e 13 (by decide), e 14 (by decide)]
    exact z3
  · simp only [e 2 (by decide), e 37 (by decide), e 38 (by decide), e 39 (by decide), e 40 (by decide)]
    exact z4
  · simp only [e 22 (by decide), e 23 (by decide)]
    exact z5
/-- a row that nothing but IZ speaks of, or none -/
theorem I4_up {S S' : S9} {B : Int} (a : I4 S B) (e : ∀ f, (jF f ∨ f = 28 ∨ f = 32 ∨ f = 33 ∨ f = 36 ∨ f = 37 ∨ f = 38 ∨ f = 39) → ∀ j, S' f j = S f j) (z : IZ S') : I4 S' B := by
  obtain ⟨hJ, h2, hB, -⟩ := a
  exact ⟨JJ_ag (fun f hf => e f (Or.inl hf)) hJ, IO2_ag (fun f hf => e f (Or.inl (by unfold jF; omega))) h2, IB_ag (fun f hf => e f (by unfold jF; omega)) hB, z⟩
theorem I4_show {S : S9} {B w v : Int} (a : I4 S B) : I4 (up S 11 w v) B := I4_up a (fun f hf j => up_f (by unfold jF at hf; omega)) (IZ_ag (fun f hf j => up_f (by omega)) a.2.2.2)
theorem I4_allow {S : S9} {B w v : Int} (a : I4 S B) : I4 (up S 25 w v) B := I4_up a (fun f hf j => up_f (by unfold jF at hf; omega)) (IZ_ag (fun f hf j => up_f (by omega)) a.2.2.2)
theorem I4_bid {S : S9} {B c v : Int} (a : I4 S B) (hc : isC S c) (hv : 0 ≤ v ∧ v ≤ 9) : I4 (up S 36 c v) B := by
  obtain ⟨hJ, h2, ⟨b1, b2, b3⟩, hz⟩ := a
  refine ⟨JJ_ag (fun f hf j => up_f (by unfold jF at hf; omega)) hJ, IO2_ag (fun f hf j => up_f (by omega)) h2, ⟨IG_ag (fun f hf j => up_f (by omega)) b1, fun s s0 s1 => ?_, fun d d0 d1 => ?_⟩, IZ_ag (fun f hf j => up_f (by omega)) hz⟩
  · rw [up_f (by decide), up_f (by decide), up_f (by decide)]
    exact b2 s s0 s1
  · rw [up_f (by decide)] at d1
    have := b3 d d0 d1
    rw [up_at, up_f (by decide)]
    split <;> omega
theorem I4_mark {S : S9} {B s w v u : Int} (a : I4 S B) (hw : isWn S s w) (h4 : s < 4) : I4 (up (up S 12 (6 * s + w) v) 13 (6 * s + w) u) B := by
  have e : ∀ f, (f ≠ 12 ∧ f ≠ 13) → ∀ j, up (up S 12 (6 * s + w) v) 13 (6 * s + w) u f j = S f j := fun f hf j => by rw [up_f hf.2, up_f hf.1]
  refine I4_up a (fun f hf => e f (by unfold jF at hf; omega)) ?_
  obtain ⟨⟨hN, -⟩, -, -, z1, z2, z3, z4, z5⟩ := a
  have hb := hN.2.2.2.2 s hw.1.1 h4
  refine ⟨?_, ?_, fun t v0 t0 t1 v1 v2 => ?_, ?_, ?_⟩
  · simp only [e 31 (by decide), e 32 (by decide), e 33 (by decide)]; exact z1
  · simp only [e 1 (by decide), e 4 (by decide), e 16 (by decide), e 17 (by decide), e 22 (by decide), e 26 (by decide), e 28 (by decide), e 29 (by decide), e 30 (by decide), e 31 (by decide)]; exact z2
  · rw [e 4 (by decide)] at v1
    have hbt := hN.2.2.2.2 t t0 t1
    have hn : v0 ≠ 6 * s + w := by
      intro z
      by_cases y : t = s
      · rw [y] at v1
        omega
      · omega
    have := z3 t v0 t0 t1 v1 v2
    simp only [e 9 (by decide), e 14 (by decide)]
    rw [up_f (by decide), up_i hn, up_i hn, up_f (by decide)]
    exact this
  · simp only [e 2 (by decide), e 37 (by decide), e 38 (by decide), e 39 (by decide), e 40 (by decide)]; exact z4
  · simp only [e 22 (by decide), e 23 (by decide)]; exact z5
theorem drawS_f {S : S9} {w x y a b c j : Int} {f : Nat} (h : f ≠ 14) : drawS S w x y a b c f j = S f j := if_neg (fun z => h z.1)
theorem drawS_o {S : S9} {w x y a b c j : Int} (h : j < 96 * w ∨ 96 * w + S 7 w * S 8 w ≤ j) : drawS S w x y a b c 14 j = S 14 j := if_neg (fun z => by omega)
theorem I4_draw {S : S9} {B s w x y a b c : Int} (i : I4 S B) (hw : isWn S s w) (h4 : s < 4) : I4 (drawS S (6 * s + w) x y a b c) B := by
  have e : ∀ f, f ≠ 14 → ∀ j, drawS S (6 * s + w) x y a b c f j = S f j := fun f hf j => drawS_f hf
  refine I4_up i (fun f hf => e f (by unfold jF at hf; omega)) ?_
  obtain ⟨⟨hN, hI, -⟩, -, -, z1, z2, z3, z4, z5⟩ := i
  have hb := hN.2.2.2.2 s hw.1.1 h4
  obtain ⟨w1, w2, w3, w4, w5, w6, w7, w8, w9, w10⟩ := hI s (6 * s + w) ⟨hw.1.1, h4, by omega, by omega⟩
  have wa := area_le w5 w6 w7 w8
  refine ⟨?_, ?_, fun t v0 t0 t1 v1 v2 => ?_, ?_, ?_⟩
  · simp only [e 31 (by decide), e 32 (by decide), e 33 (by decide)]; exact z1
  · simp only [e 1 (by decide), e 4 (by decide), e 16 (by decide), e 17 (by decide), e 22 (by decide), e 26 (by decide), e 28 (by decide), e 29 (by decide), e 30 (by decide), e 31 (by decide)]; exact z2
  · rw [e 4 (by decide)] at v1
    have hbt := hN.2.2.2.2 t t0 t1
    have hn : v0 ≠ 6 * s + w := by
      intro z
      by_cases y : t = s
      · rw [y] at v1
        omega
      · omega
    have := z3 t v0 t0 t1 v1 v2
    simp only [e 9 (by decide), e 12 (by decide), e 13 (by decide)]
    exact ⟨this.1, this.2.1, this.2.2.1, fun k k0 k1 => (drawS_o (by omega)).trans (this.2.2.2 k k0 k1)⟩
  · simp only [e 2 (by decide), e 37 (by decide), e 38 (by decide), e 39 (by decide), e 40 (by decide)]; exact z4
  · simp only [e 22 (by decide), e 23 (by decide)]; exact z5
theorem movS_f {S : S9} {w x y j : Int} {f : Nat} (h : f ≠ 5 ∧ f ≠ 6) : movS S w x y f j = S f j := by
  unfold movS
  rw [up_f h.2, up_f h.1]
theorem I4_moveWindow {S : S9} {B w x y : Int} (a : I4 S B) (hx : -5 ≤ x ∧ x ≤ 11) (hy : -5 ≤ y ∧ y ≤ 7) : I4 (movS S w x y) B := by
  obtain ⟨⟨hN, hI, hO, hC, hK⟩, h2, hB, hz⟩ := a
  exact ⟨⟨IN_ag (fun f hf j => movS_f (by omega)) hN, movS_IW hI hx hy, IO_ag (fun f hf j => movS_f (by omega)) hO, IC_ag (fun f hf j => movS_f (by omega)) hC, IK_ag (fun f hf j => movS_f (by omega)) hK⟩, IO2_ag (fun f hf j => movS_f (by omega)) h2, IB_ag (fun f hf j => movS_f (by omega)) hB, IZ_ag (fun f hf j => movS_f (by omega)) hz⟩
/-- a window opened -/
theorem opW_f {S : S9} {s x y a b j : Int} {f : Nat} (h : f ≠ 4 ∧ f ≠ 5 ∧ f ≠ 6 ∧ f ≠ 7 ∧ f ≠ 8 ∧ f ≠ 10 ∧ f ≠ 11 ∧ f ≠ 15 ∧ f ≠ 16) : opW S s x y a b f j = S f j := by
  unfold opW
  rw [up_f (by omega), up_f (by omega), up_f (by omega), up_f (by omega), up_f (by omega), up_f (by omega), up_f (by omega), up_f (by omega), up_f (by omega)]
theorem opW_g {S : S9} {s x y a b j : Int} {f : Nat} (h : f = 4 ∨ (5 ≤ f ∧ f ≤ 8) ∨ f = 10 ∨ f = 11 ∨ f = 15 ∨ f = 16) : opW S s x y a b f j = if f = 4 then (if j = s then S 4 s + 1 else S 4 j) else if f = 15 then (if j = 6 * s + S 16 s then 6 * s + S 4 s else S 15 j) else if f = 16 then (if j = s then S 16 s + 1 else S 16 j) else if j = 6 * s + S 4 s then (if f = 5 then x else if f = 6 then y else if f = 7 then a else if f = 8 then b else 1) else S f j := by
  unfold opW
  rcases h with rfl | h | rfl | rfl | rfl | rfl
  · simp only [up_f (show (4 : Nat) ≠ 16 by decide), up_f (show (4 : Nat) ≠ 15 by decide), up_f (show (4 : Nat) ≠ 11 by decide), up_f (show (4 : Nat) ≠ 10 by decide), up_f (show (4 : Nat) ≠ 8 by decide), up_f (show (4 : Nat) ≠ 7 by decide), up_f (show (4 : Nat) ≠ 6 by decide), up_f (show (4 : Nat) ≠ 5 by decide), up_at]
    rfl
  · obtain ⟨h5, h8⟩ := h
    rcases (show f = 5 ∨ f = 6 ∨ f = 7 ∨ f = 8 by omega) with rfl | rfl | rfl | rfl <;> simp [up]
  · simp [up]
  · simp [up]
  · simp [up]
  · simp [up]
theorem I4_openWindow {S : S9} {B s x y a b : Int} (i : I4 S B) (s0 : 0 ≤ s) (s1 : s < S 1 0) (h6 : S 4 s < 6) (hx : -5 ≤ x ∧ x ≤ 11) (hy : -5 ≤ y ∧ y ≤ 7) (ha : 1 ≤ a ∧ a ≤ 12) (hb : 1 ≤ b ∧ b ≤ 8) : I4 (opW S s x y a b) B := by
  obtain ⟨⟨hN, hI, hO, hC, hK⟩, ⟨h2a, h2b⟩, hB, z1, z2, z3, z4, z5⟩ := i
  have s4 : s < 4 := by have := hN.2.1; omega
  have hb4 := hN.2.2.2.2 s s0 s4
  have e : ∀ f, (f ≠ 4 ∧ f ≠ 5 ∧ f ≠ 6 ∧ f ≠ 7 ∧ f ≠ 8 ∧ f ≠ 10 ∧ f ≠ 11 ∧ f ≠ 15 ∧ f ≠ 16) → ∀ j, opW S s x y a b f j = S f j := fun f hf j => opW_f hf
  have e4 : ∀ j, opW S s x y a b 4 j = if j = s then S 4 s + 1 else S 4 j := fun j => opW_g (by decide)
  have e16 : ∀ j, opW S s x y a b 16 j = if j = s then S 16 s + 1 else S 16 j := fun j => opW_g (by decide)
  have e15 : ∀ j, opW S s x y a b 15 j = if j = 6 * s + S 16 s then 6 * s + S 4 s else S 15 j := fun j => opW_g (by decide)
  have e5 : ∀ j, opW S s x y a b 5 j = if j = 6 * s + S 4 s then x else S 5 j := fun j => opW_g (by decide)
  have e6 : ∀ j, opW S s x y a b 6 j = if j = 6 * s + S 4 s then y else S 6 j := fun j => opW_g (by decide)
  have e7 : ∀ j, opW S s x y a b 7 j = if j = 6 * s + S 4 s then a else S 7 j := fun j => opW_g (by decide)
  have e8 : ∀ j, opW S s x y a b 8 j = if j = 6 * s + S 4 s then b else S 8 j := fun j => opW_g (by decide)
  have e10 : ∀ j, opW S s x y a b 10 j = if j = 6 * s + S 4 s then 1 else S 10 j := fun j => opW_g (by decide)
  have hw : ∀ t w, hasW (opW S s x y a b) t w ↔ (hasW S t w ∨ (t = s ∧ w = 6 * s + S 4 s)) := by
    intro t w
    unfold hasW
    rw [e4]
    by_cases z : t = s
    · rw [if_pos z, z]
      omega
    · rw [if_neg z]
      omega
  have hnew : ∀ t w, hasW S t w → w ≠ 6 * s + S 4 s := by
    intro t w ht hz
    have := hN.2.2.2.2 t ht.1 ht.2.1
    by_cases z : t = s
    · rw [z] at ht
      omega
    · have ht2 := ht.2.2
      have ht0 := ht.1
      have ht1 := ht.2.1
      omega
  refine ⟨⟨⟨?_, ?_, ?_, ?_, fun t t0 t1 => ?_⟩, fun t w ht => ?_, fun t k t0 t1 k0 k1 => ?_, IC_ag (fun f hf => e f (by omega)) hC, fun t k t0 t1 k0 k1 => ?_⟩, ⟨fun t j k t0 t1 j0 jk k1 => ?_, fun t w ht h1 => ?_⟩, IB_ag (fun f hf => e f (by omega)) hB, ?_, fun t ht h4 => ?_, fun t w t0 t1 w0 w1 => ?_, ?_, ?_⟩
  · rw [e 1 (by decide)]; exact hN.1
  · rw [e 1 (by decide)]; exact hN.2.1
  · rw [e 2 (by decide)]; exact hN.2.2.1
  · rw [e 2 (by decide)]; exact hN.2.2.2.1
  · have := hN.2.2.2.2 t t0 t1
    rw [e4, e16, e 17 (by decide)]
    by_cases z : t = s
    · rw [if_pos z, if_pos z]
      rw [z] at this
      rw [z]
      omega
    · rw [if_neg z, if_neg z]
      exact this
  · rcases (hw t w).mp ht with z | ⟨z1, z2⟩
    · have hn := hnew t w z
      have := hI t w z
      unfold IW1 at this ⊢
      rw [e5, e6, e7, e8, e 9 (by decide), if_neg hn, if_neg hn, if_neg hn, if_neg hn]
      exact this
    · unfold IW1
      rw [z2, e5, e6, e7, e8, e 9 (by decide), if_pos rfl, if_pos rfl, if_pos rfl, if_pos rfl]
      have h9 := (z3 s (6 * s + S 4 s) s0 s4 (by omega) (by omega)).1
      have ar := area_le ha.1 ha.2 hb.1 hb.2
      omega
  · rw [e16] at k1
    have hk := hw t
    rw [e15]
    by_cases z : 6 * t + k = 6 * s + S 16 s
    · rw [if_pos z]
      have hts : t = s := by
        by_cases y : t = s
        · exact y
        · have := hN.2.2.2.2 t t0 t1
          rw [if_neg y] at k1
          omega
      exact ⟨(hw t _).mpr (Or.inr ⟨hts, rfl⟩), by rw [e10, if_pos rfl]⟩
    · rw [if_neg z]
      have hk1 : k < S 16 t := by
        by_cases y : t = s
        · rw [if_pos y] at k1
          rw [y] at z ⊢
          omega
        · rw [if_neg y] at k1
          exact k1
      have := hO t k t0 t1 k0 hk1
      refine ⟨(hw t _).mpr (Or.inl this.1), ?_⟩
      rw [e10, if_neg (hnew t _ this.1)]
      exact this.2
  · rw [e 17 (by decide)] at k1
    have := hK t k t0 t1 k0 k1
    unfold IK1 at this ⊢
    have hn := hnew t _ this.1
    rw [e 18 (by decide), e 20 (by decide), e 21 (by decide), e 2 (by decide), e7, e8, if_neg hn, if_neg hn]
    exact ⟨(hw t _).mpr (Or.inl this.1), this.2⟩
  · rw [e16] at k1
    have ht := hN.2.2.2.2 t t0 t1
    have old : ∀ i, 0 ≤ i → i < S 16 t → S 15 (6 * t + i) ≠ 6 * s + S 4 s := fun i i0 i1 => hnew t _ (hO t i t0 t1 i0 i1).1
    rw [e15, e15]
    by_cases y : t = s
    · rw [if_pos y] at k1
      rw [y] at old ht ⊢
      rw [if_neg (show ¬ 6 * s + j = 6 * s + S 16 s by omega)]
      by_cases z : k = S 16 s
      · rw [if_pos (by omega)]
        exact old j j0 (by omega)
      · rw [if_neg (by omega)]
        exact h2a s j k s0 s4 j0 jk (by omega)
    · rw [if_neg y] at k1
      rw [if_neg (show ¬ 6 * t + j = 6 * s + S 16 s by omega), if_neg (show ¬ 6 * t + k = 6 * s + S 16 s by omega)]
      exact h2a t j k t0 t1 j0 jk k1
  · rcases (hw t w).mp ht with z | ⟨z1, z2⟩
    · rw [e10, if_neg (hnew t w z)] at h1
      obtain ⟨j, j0, j1, j2⟩ := h2b t w z h1
      have htb := hN.2.2.2.2 t z.1 z.2.1
      have t0 := z.1
      have t1 := z.2.1
      refine ⟨j, j0, ?_, ?_⟩
      · rw [e16]
        by_cases y : t = s
        · rw [if_pos y, ← y]
          omega
        · rw [if_neg y]
          exact j1
      · rw [e15, if_neg]
        · exact j2
        · intro y
          by_cases x : t = s
          · rw [x] at j1 y
            omega
          · omega
    · refine ⟨S 16 s, by omega, ?_, ?_⟩
      · rw [e16, if_pos z1]
        omega
      · rw [e15, z1, if_pos rfl, z2]
  · simp only [e 31 (by decide), e 32 (by decide), e 33 (by decide)]; exact z1
  · rw [e 1 (by decide)] at ht
    have := z2 t ht h4
    have hts : t ≠ s := by omega
    simp only [e4, e16, if_neg hts, e 17 (by decide), e 22 (by decide), e 26 (by decide), e 28 (by decide), e 29 (by decide), e 30 (by decide), e 31 (by decide)]
    exact this
  · simp only [e 9 (by decide), e 12 (by decide), e 13 (by decide), e 14 (by decide)]
    refine z3 t w t0 t1 ?_ w1
    rw [e4] at w0
    by_cases y : t = s
    · rw [if_pos y] at w0
      rw [y] at w0 ⊢
      omega
    · rw [if_neg y] at w0
      exact w0
  · simp only [e 2 (by decide), e 37 (by decide), e 38 (by decide), e 39 (by decide), e 40 (by decide)]; exact z4
  · simp only [e 22 (by decide), e 23 (by decide)]; exact z5
