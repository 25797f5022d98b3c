/-! a key typed -/
theorem e_fresh {l : Launch} {Y : zM} {Q : zO → zH → Prop} {k n pc : Nat} {ls st : List zV} {h : zH} (N : Nat) (K : ∀ a, N ≤ a → zK h a = 0 → AW l Y Q k n pc ls st h) : AW l Y Q k n pc ls st h := by
  intro p e s m args below meth c D dA ad0 h0 A C H locs ad lm hP hE hS hL o1 o2
  obtain ⟨-, L, tys, -, hL1, -⟩ := id hP
  have hb : ∀ L : List Nat, ∃ b : Nat, ∀ x ∈ L, x < b := by
    intro L
    induction L with
    | nil => exact ⟨0, fun x hx => by cases hx⟩
    | cons y ys ih =>
      obtain ⟨b, hb⟩ := ih
      refine ⟨b + y + 1, fun x hx => ?_⟩
      rcases List.mem_cons.mp hx with rfl | hx
      · omega
      · have := hb x hx; omega
  obtain ⟨b, hb⟩ := hb L
  refine K (N + b) (Nat.le_add_right _ _) ?_ p e s m args below meth c D dA ad0 h0 A C H locs ad lm hP hE hS hL o1 o2
  rcases Nat.eq_zero_or_pos (zK h (N + b)) with z | z
  · exact z
  · have := hb _ ((hL1 (N + b)).mpr (by omega))
    omega
theorem typS_f {S : S9} {c t j : Int} {f : Nat} (h : f < 17 ∨ 21 < f) : typS S c t f j = S f j := by
  unfold typS
  rw [up_f (by omega), up_f (by omega), up_f (by omega), up_f (by omega), up_f (by omega)]
theorem typS_17 {S : S9} {c t j : Int} : typS S c t 17 j = if j = S 35 c then S 17 (S 35 c) + 1 else S 17 j := by
  unfold typS up
  by_cases z : j = S 35 c <;> simp [z]
theorem typS_o {S : S9} {c t j : Int} {f : Nat} (h : f ≠ 17) (hj : j ≠ 20 * S 35 c + S 17 (S 35 c)) : typS S c t f j = S f j := by
  unfold typS up
  simp [h, hj]
theorem typS_k {S : S9} {c t : Int} : typS S c t 18 (20 * S 35 c + S 17 (S 35 c)) = topOf S (S 35 c) ∧ typS S c t 19 (20 * S 35 c + S 17 (S 35 c)) = 101 + t - 97 ∧ typS S c t 20 (20 * S 35 c + S 17 (S 35 c)) = (S 9 (topOf S (S 35 c)) + keysW S (S 35 c) (topOf S (S 35 c))) % (S 7 (topOf S (S 35 c)) * S 8 (topOf S (S 35 c))) ∧ typS S c t 21 (20 * S 35 c + S 17 (S 35 c)) = c := by
  unfold typS
  refine ⟨?_, ?_, ?_, ?_⟩ <;> simp [up]
theorem typS_in {S : S9} {c t : Int} (f : Nat) (j : Int) (h0 : 0 ≤ S 17 (S 35 c)) (h1 : S 17 (S 35 c) < 20) (h : ¬ inS (S 35 c) f j) : typS S c t f j = S f j := by
  by_cases y : f < 17 ∨ 21 < f
  · exact typS_f y
  · by_cases y2 : f = 17
    · subst y2
      rw [typS_17, if_neg (fun z => h (Or.inl ⟨by omega, z⟩))]
    · exact typS_o y2 (fun z => h (by unfold inS; omega))
theorem I4_type {S : S9} {B c t : Int} (a : I4 S B) (hc : isC S c) (ht : 0 ≤ topOf S (S 35 c)) (hn : S 17 (S 35 c) < 20) : I4 (typS S c t) B := by
  obtain ⟨⟨hN, hI, hO, hC, hK⟩, h2, hB, hz⟩ := a
  have hs := hC c hc.1 hc.2
  have hN4 := hN.2.1
  have hb := hN.2.2.2.2 (S 35 c) hs.1 (by omega)
  have htp := topOf_in (s := S 35 c) hN hO hs.1 (by omega)
  have e : ∀ f, (f < 17 ∨ 21 < f) → ∀ j, typS S c t f j = S f j := fun f hf j => typS_f hf
  refine ⟨⟨?_, IW_ag (fun f h4 h9 => e f (by omega)) hI, IO_ag (fun f hf => e f (by omega)) hO, IC_ag (fun f hf j => e f (by omega) j) hC, fun s k s0 s1 k0 k1 => ?_⟩, IO2_ag (fun f hf => e f (by omega)) h2, IB_ag (fun f hf => e f (by omega)) hB, ?_⟩
  · obtain ⟨n1, n2, n3, n4, n5⟩ := hN
    unfold IN
    simp only [e 1 (by decide), e 2 (by decide), e 4 (by decide), e 16 (by decide), typS_17]
    refine ⟨n1, n2, n3, n4, fun s s0 s1 => ?_⟩
    have := n5 s s0 s1
    split <;> omega
  · rw [typS_17] at k1
    unfold IK1 hasW
    by_cases y : s = S 35 c ∧ k = S 17 (S 35 c)
    · obtain ⟨y1, y2⟩ := y
      subst y2
      rw [y1]
      obtain ⟨g1, g2, g3, g4⟩ := typS_k (S := S) (c := c) (t := t)
      rw [g1, g3, g4, e 4 (by decide), e 7 (by decide), e 8 (by decide), e 2 (by decide)]
      obtain ⟨w, w10, w11⟩ := htp.resolve_left (by omega)
      have q := hI _ _ w
      have qa := area_le q.2.2.2.2.1 q.2.2.2.2.2.1 q.2.2.2.2.2.2.1 q.2.2.2.2.2.2.2.1
      exact ⟨w, Int.emod_nonneg _ (by omega), Int.emod_lt_of_pos _ (by omega), hc.1, hc.2⟩
    · have hk : k < S 17 s := by
        split at k1
        · rename_i z; rw [z] at y ⊢; omega
        · exact k1
      have hb2 := hN.2.2.2.2 s s0 s1
      have hne : 20 * s + k ≠ 20 * S 35 c + S 17 (S 35 c) := by omega
      have := hK s k s0 s1 k0 hk
      unfold IK1 hasW at this
      rw [typS_o (by decide) hne, typS_o (by decide) hne, typS_o (by decide) hne, e 4 (by decide), e 7 (by decide), e 8 (by decide), e 2 (by decide)]
      exact this
  · obtain ⟨z1, z2, z3, z4, z5⟩ := hz
    refine ⟨?_, ?_, ?_, ?_, ?_⟩
    · simp only [e 31 (by decide), e 32 (by decide), e 33 (by decide)]; exact z1
    · simp only [e 1 (by decide), e 4 (by decide), e 16 (by decide), e 22 (by decide), e 26 (by decide), e 28 (by decide), e 29 (by decide), e 30 (by decide), e 31 (by decide)]
      intro s hs4 h4
      rw [typS_17, if_neg (by omega)]
      exact z2 s hs4 h4
    · simp only [e 4 (by decide), e 9 (by decide), e 12 (by decide), e 13 (by decide), e 14 (by decide)]; exact z3
    · simp only [e 2 (by decide), e 37 (by decide), e 38 (by decide), e 39 (by decide), e 40 (by decide)]; exact z4
    · simp only [e 22 (by decide), e 23 (by decide)]; exact z5
/-- a full row grows: 10, 15, 22 -/
def GMore (l : Launch) : Prop := ∀ (h : zH) (n ed a : Nat) (cp len cp' : Int) (q : Int → Option Nat), LA h n ed cp len q → ed ≠ 0 → len = cp → ((cp = 10 ∧ cp' = 15) ∨ (cp = 15 ∧ cp' = 22)) → 1 < a → zK h a = 0 → n ≠ a → (∀ i, 0 ≤ i → i < len → ∀ y, q i = some y → zK h y = 5 ∧ y ≠ n) → GW l h n ed cp len q a cp'
/-- where the next key's row lies -/
def edK (s : Int) (ed : Nat) (cp len : Int) : Nat := if len < cp then ed else if cp = 0 then nS s + 16 else if cp = 10 then nS s + 17 else nS s + 18
def cpK (cp len : Int) : Int := if len < cp then cp else if cp = 0 then 10 else if cp = 10 then 15 else 22
theorem key_GW {l : Launch} (hl : l.stackTraces = false) (hG : GMore l) {S : S9} {h : zH} {s : Int} {ed : Nat} {cp : Int} {kn : Int → Nat} (hK : RKx S h s ed cp kn) (hn : S 17 s < 20) : GW l h (nS s + 3) ed cp (S 17 s) (fun i => some (kn i)) (edK s ed cp (S 17 s)) (cpK cp (S 17 s)) ∧ S 17 s < cpK cp (S 17 s) ∧ cpK cp (S 17 s) ≤ 22 ∧ cp ≤ 22 ∧ ((edK s ed cp (S 17 s) = nS s + 16 ∧ cpK cp (S 17 s) = 10 ∧ zK h (nS s + 17) = 0 ∧ zK h (nS s + 18) = 0) ∨ (edK s ed cp (S 17 s) = nS s + 17 ∧ cpK cp (S 17 s) = 15 ∧ zK h (nS s + 18) = 0) ∨ (edK s ed cp (S 17 s) = nS s + 18 ∧ cpK cp (S 17 s) = 22)) := by
  obtain ⟨hA, hd, hel⟩ := hK
  obtain ⟨a1, a2, a3, a4, a5, a6⟩ := id hA
  have hq : ∀ i, 0 ≤ i → i < S 17 s → ∀ y, (fun i => some (kn i)) i = some y → zK h y = 5 ∧ y ≠ nS s + 3 := by
    intro i i0 i1 y hy
    have e : kn i = y := Option.some.inj hy
    have k5 := (hel i i0 i1).2.1
    rw [e] at k5
    exact ⟨k5, fun z => by rw [z, a1] at k5; omega⟩
  unfold edK cpK
  by_cases z : S 17 s < cp
  · rw [if_pos z, if_pos z]
    refine ⟨GW_room z, z, ?_⟩
    rcases hd with ⟨d1, -⟩ | ⟨d1, d2, d3⟩ | ⟨d1, d2, d3⟩ | ⟨d1, d2⟩
    · rcases a5 with a5 | a5 <;> omega
    · exact ⟨by omega, by omega, Or.inl ⟨d1, d2, d3⟩⟩
    · exact ⟨by omega, by omega, Or.inr (Or.inl ⟨d1, d2, d3⟩)⟩
    · exact ⟨by omega, by omega, Or.inr (Or.inr ⟨d1, d2⟩)⟩
  · rw [if_neg z, if_neg z]
    rcases hd with ⟨d1, d2, d3, d4⟩ | ⟨d1, d2, d3, d4⟩ | ⟨d1, d2, d3⟩ | ⟨d1, d2⟩
    · have hc0 : cp = 0 := by rcases a5 with a5 | a5 <;> omega
      rw [if_pos hc0, if_pos hc0]
      subst d1
      exact ⟨GW_first hl hA (nS s + 16) (by omega) d2 (by omega), by omega, by omega, by omega, Or.inl ⟨rfl, rfl, d3, d4⟩⟩
    · have g0 : ¬ cp = 0 := by omega
      rw [if_neg g0, if_neg g0, if_pos d2, if_pos d2]
      exact ⟨hG _ _ _ _ _ _ _ _ hA (by omega) (by omega) (Or.inl ⟨d2, rfl⟩) (by omega) d3 (by omega) hq, by omega, by omega, by omega, Or.inr (Or.inl ⟨rfl, rfl, d4⟩)⟩
    · have g0 : ¬ cp = 0 := by omega
      have g1 : ¬ cp = 10 := by omega
      rw [if_neg g0, if_neg g0, if_neg g1, if_neg g1]
      exact ⟨hG _ _ _ _ _ _ _ _ hA (by omega) (by omega) (Or.inr ⟨d2, rfl⟩) (by omega) d3 (by omega) hq, by omega, by omega, by omega, Or.inr (Or.inr ⟨rfl, rfl⟩)⟩
    · omega
/-- the keys after -/
theorem RKx_add {S : S9} {h h' : zH} {c t : Int} {ed : Nat} {cp : Int} {kn : Int → Nat} {a ed' : Nat} {cp' : Int} (hN : IN S) (hc0 : 0 ≤ S 35 c) (hc4 : S 35 c < 4) (hK : RKx S h (S 35 c) ed cp kn) (ha : 10000 ≤ a) (hka : zK h a = 5) (hrk : ∀ k, 0 ≤ k → k < S 17 (S 35 c) → kn k ≠ a)
    (r1 : zr h 400 a = some (nC c)) (r2 : zr h 401 a = some (nW (topOf S (S 35 c)))) (r3 : zf h 402 a = (S 9 (topOf S (S 35 c)) + keysW S (S 35 c) (topOf S (S 35 c))) % (S 7 (topOf S (S 35 c)) * S 8 (topOf S (S 35 c)))) (r4 : zf h 403 a = 101 + t - 97)
    (hA : LA h' (nS (S 35 c) + 3) ed' cp' (S 17 (S 35 c) + 1) (fun j => if j = S 17 (S 35 c) then some a else some (kn j))) (hf : ∀ m, m ≠ nS (S 35 c) + 3 → m ≠ ed' → eqAt m h h') (hd : (ed' = nS (S 35 c) + 16 ∧ cp' = 10 ∧ zK h (nS (S 35 c) + 17) = 0 ∧ zK h (nS (S 35 c) + 18) = 0) ∨ (ed' = nS (S 35 c) + 17 ∧ cp' = 15 ∧ zK h (nS (S 35 c) + 18) = 0) ∨ (ed' = nS (S 35 c) + 18 ∧ cp' = 22)) : RKx (typS S c t) h' (S 35 c) ed' cp' (fun j => if j = S 17 (S 35 c) then a else kn j) := by
  have hb := hN.2.2.2.2 (S 35 c) hc0 hc4
  have hnS : nS (S 35 c) ≤ 4000 := by unfold nS; omega
  refine ⟨?_, ?_, fun k k0 k1 => ?_⟩
  · have e1 : (fun j => if j = S 17 (S 35 c) then some a else some (kn j)) = (fun i => some ((fun j => if j = S 17 (S 35 c) then a else kn j) i)) := by
      funext j
      show (if j = S 17 (S 35 c) then some a else some (kn j)) = some (if j = S 17 (S 35 c) then a else kn j)
      split <;> rfl
    rw [typS_17, if_pos rfl, ← e1]
    exact hA
  · rcases hd with ⟨d1, d2, d3, d4⟩ | ⟨d1, d2, d3⟩ | d
    · exact Or.inr (Or.inl ⟨d1, d2, (hf _ (by omega) (by omega)).1.trans d3, (hf _ (by omega) (by omega)).1.trans d4⟩)
    · exact Or.inr (Or.inr (Or.inl ⟨d1, d2, (hf _ (by omega) (by omega)).1.trans d3⟩))
    · exact Or.inr (Or.inr (Or.inr d))
  · rw [typS_17, if_pos rfl] at k1
    have hed : ed' < 10000 := by omega
    by_cases y : k = S 17 (S 35 c)
    · subst y
      show 10000 ≤ (if _ then _ else _) ∧ RKey _ _ _ _ (if _ then _ else _)
      rw [if_pos rfl]
      obtain ⟨b1, -, b3, -, b5, -⟩ := hf a (by omega) (by omega)
      obtain ⟨g1, g2, g3, g4⟩ := typS_k (S := S) (c := c) (t := t)
      refine ⟨ha, b1.trans hka, ?_, ?_, ?_, ?_⟩
      · rw [b5, g4]; exact r1
      · rw [b5, g1]; exact r2
      · rw [b3, g3]; exact r3
      · rw [b3, g2]; exact r4
    · show 10000 ≤ (if _ then _ else _) ∧ RKey _ _ _ _ (if _ then _ else _)
      rw [if_neg y]
      obtain ⟨q1, q2⟩ := hK.2.2 k k0 (by omega)
      have q3 := RKey_at (hf (kn k) (by omega) (by omega)) q2
      refine ⟨q1, ?_⟩
      unfold RKey at q3 ⊢
      rw [typS_o (by decide) (by omega), typS_o (by decide) (by omega), typS_o (by decide) (by omega), typS_o (by decide) (by omega)]
      exact q3
