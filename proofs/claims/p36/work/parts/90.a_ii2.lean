/-! clipboards, moves, recordings: what is kept -/
theorem I4_clp {S S' : S9} {B s : Int} (a : I4 S B) (hs : s < S 1 0) (e : ∀ f, f ≠ 22 → f ≠ 23 → f ≠ 24 → ∀ j, S' f j = S f j) (e2 : ∀ t, t ≠ s → S' 22 t = S 22 t ∧ S' 23 t = S 23 t) (h1 : 0 ≤ S' 22 s ∧ S' 22 s ≤ 3 ∧ (S' 22 s ≠ 0 → 0 ≤ S' 23 s ∧ S' 23 s ≤ 9999)) : I4 S' B := by
  refine I4_up a (fun f hf => e f (by unfold jF at hf; omega) (by unfold jF at hf; omega) (by unfold jF at hf; omega)) ?_
  obtain ⟨-, -, -, z1, z2, z3, z4, z5⟩ := a
  refine ⟨?_, fun t t1 t4 => ?_, ?_, ?_, fun t t0 t1 => ?_⟩
  · simp only [e 31 (by decide) (by decide) (by decide), e 32 (by decide) (by decide) (by decide), e 33 (by decide) (by decide) (by decide)]; exact z1
  · rw [e 1 (by decide) (by decide) (by decide)] at t1
    have z := z2 t t1 t4
    simp only [e 4 (by decide) (by decide) (by decide), e 16 (by decide) (by decide) (by decide), e 17 (by decide) (by decide) (by decide), e 26 (by decide) (by decide) (by decide), e 28 (by decide) (by decide) (by decide), e 29 (by decide) (by decide) (by decide), e 30 (by decide) (by decide) (by decide), e 31 (by decide) (by decide) (by decide), (e2 t (by omega)).1]
    exact z
  · simp only [e 4 (by decide) (by decide) (by decide), e 9 (by decide) (by decide) (by decide), e 12 (by decide) (by decide) (by decide), e 13 (by decide) (by decide) (by decide), e 14 (by decide) (by decide) (by decide)]; exact z3
  · simp only [e 2 (by decide) (by decide) (by decide), e 37 (by decide) (by decide) (by decide), e 38 (by decide) (by decide) (by decide), e 39 (by decide) (by decide) (by decide), e 40 (by decide) (by decide) (by decide)]; exact z4
  · by_cases y : t = s
    · rw [y]; exact h1
    · rw [(e2 t y).1, (e2 t y).2]
      exact z5 t t0 t1
theorem pasI_22 {S : S9} {s o a b x y : Int} {g : Int → Int} {f : Nat} {j : Int} (h : f ≠ 24) : pasI (up (up S 22 a x) 23 b y) s o g f j = up (up S 22 a x) 23 b y f j := if_neg (fun z => h z.1)
theorem copS_f {S : S9} {s t v j : Int} {f : Nat} (h1 : f ≠ 22) (h2 : f ≠ 23) (h3 : f ≠ 24) : copS S s t v f j = S f j := by
  unfold copS
  rw [pasI_22 h3, up_f h2, up_f h1]
theorem pasS_f {S : S9} {a b j : Int} {f : Nat} (h1 : f ≠ 22) (h2 : f ≠ 23) (h3 : f ≠ 24) : pasS S a b f j = S f j := by
  unfold pasS
  rw [pasI_22 h3, up_f h2, up_f h1]
theorem copS_22 {S : S9} {s t v j : Int} : copS S s t v 22 j = if j = s then t + 1 else S 22 j := by
  unfold copS
  rw [pasI_22 (by decide), up_f (by decide), up_at]
theorem copS_23 {S : S9} {s t v j : Int} : copS S s t v 23 j = if j = s then v else S 23 j := by
  unfold copS
  rw [pasI_22 (by decide), up_at, up_f (by decide)]
theorem pasS_22 {S : S9} {a b j : Int} : pasS S a b 22 j = if j = b then S 22 a else S 22 j := by
  unfold pasS
  rw [pasI_22 (by decide), up_f (by decide), up_at]
theorem pasS_23 {S : S9} {a b j : Int} : pasS S a b 23 j = if j = b then S 23 a else S 23 j := by
  unfold pasS
  rw [pasI_22 (by decide), up_at, up_f (by decide)]
theorem copS_24 {S : S9} {s t v o : Int} (h0 : 0 ≤ o) (h1 : o < 4) : copS S s t v 24 (4 * s + o) = b2 (o = s) := by
  unfold copS pasI
  rw [if_pos (by omega), show 4 * s + o - 4 * s = o by omega]
theorem pasS_24 {S : S9} {a b o : Int} (h0 : 0 ≤ o) (h1 : o < 4) : pasS S a b 24 (4 * b + o) = b2 (o = b ∨ S 24 (4 * a + o) = 1) := by
  unfold pasS pasI
  rw [if_pos (by omega), show 4 * b + o - 4 * b = o by omega]
theorem copS_e {S : S9} {s t v : Int} (f : Nat) (j : Int) (h : ¬ inS s f j) : copS S s t v f j = S f j := by
  unfold inS at h
  unfold copS pasI
  rw [if_neg (by omega)]
  unfold up
  rw [if_neg (by omega), if_neg (by omega)]
theorem pasS_e {S : S9} {a b : Int} (f : Nat) (j : Int) (h : ¬ inS b f j) : pasS S a b f j = S f j := by
  unfold inS at h
  unfold pasS pasI
  rw [if_neg (by omega)]
  unfold up
  rw [if_neg (by omega), if_neg (by omega)]
theorem I4_copy {S : S9} {B s t v : Int} (a : I4 S B) (hs : s < S 1 0) (ht : 0 ≤ t ∧ t ≤ 2) (hv : 0 ≤ v ∧ v ≤ 9999) : I4 (copS S s t v) B := by
  refine I4_clp a hs (fun f h1 h2 h3 j => copS_f h1 h2 h3) (fun u hu => ⟨by rw [copS_22, if_neg hu], by rw [copS_23, if_neg hu]⟩) ?_
  rw [copS_22, copS_23, if_pos rfl, if_pos rfl]
  omega
theorem I4_paste {S : S9} {B x y : Int} (a : I4 S B) (hx : isS S x) (hy : y < S 1 0) (h4 : x < 4) : I4 (pasS S x y) B := by
  refine I4_clp a hy (fun f h1 h2 h3 j => pasS_f h1 h2 h3) (fun u hu => ⟨by rw [pasS_22, if_neg hu], by rw [pasS_23, if_neg hu]⟩) ?_
  rw [pasS_22, pasS_23, if_pos rfl, if_pos rfl]
  exact a.2.2.2.2.2.2.2 x hx.1 h4
theorem movgS_f {S : S9} {s j : Int} {f : Nat} (h1 : f ≠ 26) (h2 : f ≠ 29) : movgS S s f j = S f j := by
  unfold movgS
  rw [notI_f h2, up_f h1]
theorem movgS_e {S : S9} {s : Int} (f : Nat) (j : Int) (h : ¬ inS s f j) : movgS S s f j = S f j := by
  unfold inS at h
  unfold movgS notI
  rw [if_neg (by omega)]
  unfold up
  rw [if_neg (by omega)]
theorem I4_move {S : S9} {B s : Int} (a : I4 S B) (hs : s < S 1 0) : I4 (movgS S s) B := by
  refine I4_up a (fun f hf j => movgS_f (by unfold jF at hf; omega) (by unfold jF at hf; omega)) ?_
  obtain ⟨-, -, -, z1, z2, z3, z4, z5⟩ := a
  have e : ∀ f, f ≠ 26 → f ≠ 29 → ∀ j, movgS S s f j = S f j := fun f h1 h2 j => movgS_f h1 h2
  refine ⟨?_, fun t t1 t4 => ?_, ?_, ?_, ?_⟩
  · simp only [e 31 (by decide) (by decide), e 32 (by decide) (by decide), e 33 (by decide) (by decide)]; exact z1
  · rw [e 1 (by decide) (by decide)] at t1
    have z := z2 t t1 t4
    have e26 : movgS S s 26 t = S 26 t := movgS_e 26 t (by unfold inS; omega)
    simp only [e 4 (by decide) (by decide), e 16 (by decide) (by decide), e 17 (by decide) (by decide), e 22 (by decide) (by decide), e26, e 28 (by decide) (by decide), e 30 (by decide) (by decide), e 31 (by decide) (by decide)]
    exact ⟨z.1, z.2.1, z.2.2.1, z.2.2.2.1, z.2.2.2.2.1, z.2.2.2.2.2.1, z.2.2.2.2.2.2.1, fun r r0 r1 => (movgS_e 29 r (by unfold inS; omega)).trans (z.2.2.2.2.2.2.2.1 r r0 r1), z.2.2.2.2.2.2.2.2⟩
  · simp only [e 4 (by decide) (by decide), e 9 (by decide) (by decide), e 12 (by decide) (by decide), e 13 (by decide) (by decide), e 14 (by decide) (by decide)]; exact z3
  · simp only [e 2 (by decide) (by decide), e 37 (by decide) (by decide), e 38 (by decide) (by decide), e 39 (by decide) (by decide), e 40 (by decide) (by decide)]; exact z4
  · simp only [e 22 (by decide) (by decide), e 23 (by decide) (by decide)]; exact z5
def recB (S : S9) (s : Int) : S9 := up (up (up S 32 s 0) 33 s 0) 31 s 1
theorem recB_f {S : S9} {s j : Int} {f : Nat} (h : f < 31 ∨ 33 < f) : recB S s f j = S f j := by
  unfold recB
  rw [up_f (by omega), up_f (by omega), up_f (by omega)]
theorem recB_e {S : S9} {s : Int} (f : Nat) (j : Int) (h : ¬ inS s f j) : recB S s f j = S f j := by
  unfold inS at h
  unfold recB up
  rw [if_neg (by omega), if_neg (by omega), if_neg (by omega)]
theorem recB_31 {S : S9} {s : Int} : recB S s 31 s = 1 := up_eq
theorem recB_32 {S : S9} {s : Int} : recB S s 32 s = 0 := by
  unfold recB
  rw [up_f (by decide), up_f (by decide), up_eq]
theorem recB_33 {S : S9} {s : Int} : recB S s 33 s = 0 := by
  unfold recB
  rw [up_f (by decide), up_eq]
theorem I4_record {S : S9} {B s : Int} (a : I4 S B) (hs : s < S 1 0) : I4 (recB S s) B := by
  obtain ⟨hJ, h2, ⟨b1, b2, b3⟩, z1, z2, z3, z4, z5⟩ := a
  have e : ∀ f, (f < 31 ∨ 33 < f) → ∀ j, recB S s f j = S f j := fun f h j => recB_f h
  have ne : ∀ t, t ≠ s → recB S s 31 t = S 31 t ∧ recB S s 32 t = S 32 t ∧ recB S s 33 t = S 33 t := fun t ht => ⟨recB_e 31 t (by unfold inS; omega), recB_e 32 t (by unfold inS; omega), recB_e 33 t (by unfold inS; omega)⟩
  refine ⟨JJ_ag (fun f hf => e f (by unfold jF at hf; omega)) hJ, IO2_ag (fun f hf => e f (by omega)) h2, ⟨IG_ag (fun f hf => e f (by omega)) b1, fun t t0 t1 => ?_, fun c c0 c1 => ?_⟩, fun t t0 t1 => ?_, fun t t1 t4 => ?_, ?_, ?_, ?_⟩
  · have := b2 t t0 t1
    rw [e 28 (by decide)]
    by_cases y : t = s
    · rw [y, recB_32, recB_33, ← y]
      omega
    · rw [(ne t y).2.1, (ne t y).2.2]
      exact this
  · rw [e 2 (by decide)] at c1
    rw [e 36 (by decide), e 37 (by decide)]
    exact b3 c c0 c1
  · by_cases y : t = s
    · rw [y, recB_31]
      exact fun z => absurd z (by decide)
    · rw [(ne t y).1, (ne t y).2.1, (ne t y).2.2]
      exact z1 t t0 t1
  · rw [e 1 (by decide)] at t1
    have z := z2 t t1 t4
    simp only [e 4 (by decide), e 16 (by decide), e 17 (by decide), e 22 (by decide), e 26 (by decide), e 28 (by decide), e 29 (by decide), e 30 (by decide), (ne t (by omega)).1]
    exact z
  · simp only [e 4 (by decide), e 9 (by decide), e 12 (by decide), e 13 (by decide), e 14 (by decide)]; exact z3
  · simp only [e 2 (by decide), e 37 (by decide), e 38 (by decide), e 39 (by decide), e 40 (by decide)]; exact z4
  · simp only [e 22 (by decide), e 23 (by decide)]; exact z5
/-- a bit of the way -/
theorem shl_1 {s : Int} (h0 : 0 ≤ s) (h1 : s < 4) : ∃ b : Int, Int32.ofInt 1 <<< (Int32.ofInt s &&& 31) = Int32.ofInt b ∧ ((s = 0 ∧ b = 1) ∨ (s = 1 ∧ b = 2) ∨ (s = 2 ∧ b = 4) ∨ (s = 3 ∧ b = 8)) := by
  rcases (show s = 0 ∨ s = 1 ∨ s = 2 ∨ s = 3 by omega) with rfl | rfl | rfl | rfl
  · exact ⟨1, by decide +kernel, by decide⟩
  · exact ⟨2, by decide +kernel, by decide⟩
  · exact ⟨4, by decide +kernel, by decide⟩
  · exact ⟨8, by decide +kernel, by decide⟩
theorem RClp_cop {S : S9} {h : zH} {s t v b : Int} (k : zK h (nS s + 5) = 4) (ht : 0 ≤ t) (hb : (s = 0 ∧ b = 1) ∨ (s = 1 ∧ b = 2) ∨ (s = 2 ∧ b = 4) ∨ (s = 3 ∧ b = 8)) : RClp (copS S s t v) (sf (sf (sf h 300 (nS s + 5) v) 301 (nS s + 5) t) 302 (nS s + 5) b) s := by
  refine ⟨k, fun z => ?_, fun _ => ⟨?_, ?_, ?_⟩⟩
  · rw [copS_22, if_pos rfl] at z
    omega
  · rw [copS_23, if_pos rfl]
    simp [s_ff]
  · rw [copS_22, if_pos rfl]
    simp [s_ff]
  · rw [show 4 * s = 4 * s + 0 by omega, copS_24 (by decide) (by decide), show 4 * s + 0 + 1 = 4 * s + 1 by omega, show 4 * s + 0 + 2 = 4 * s + 2 by omega, show 4 * s + 0 + 3 = 4 * s + 3 by omega, copS_24 (by decide) (by decide), copS_24 (by decide) (by decide), copS_24 (by decide) (by decide)]
    rcases hb with ⟨rfl, rfl⟩ | ⟨rfl, rfl⟩ | ⟨rfl, rfl⟩ | ⟨rfl, rfl⟩ <;> simp [s_ff, b2]
