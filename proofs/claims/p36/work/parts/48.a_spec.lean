/-! recordings, moves, clipboards -/
theorem itsL_ag {S S' : S9} (h : ∀ f, 5 ≤ f → f ≤ 16 → ∀ j, S' f j = S f j) (s p : Int) : itsL S' s p = itsL S s p := by
  unfold itsL
  rw [topAt_ag h, screenAt_ag h, h 12 (by omega) (by omega)]
theorem lokI_f {S : S9} {s n j : Int} {f : Nat} (h : f ≠ 33 ∧ f ≠ 34) : lokI S s n f j = S f j := by
  unfold lokI
  rw [if_neg (by omega), if_neg (by omega)]
theorem lokI_33 {S : S9} {s n : Int} : lokI S s n 33 s = S 33 s + sg (fun p => b2 (itsL S s p ≠ oldL S s p)) n.toNat := by
  unfold lokI
  rw [if_neg (by omega), if_pos ⟨rfl, rfl⟩]
theorem lokI_old {S : S9} {s n j : Int} (h : j < (60 * s + S 32 s) * 96) : lokI S s n 34 j = S 34 j := by
  unfold lokI
  rw [if_neg (by omega), if_neg (by omega)]
theorem lokI_s {S : S9} {s n j v w : Int} {f : Nat} (hn : 0 ≤ n) (hv : v = itsL S s n) (hw : w = b2 (itsL S s n ≠ oldL S s n)) : lokI S s (n + 1) f j = up (up (lokI S s n) 34 ((60 * s + S 32 s) * 96 + n) v) 33 s (S 33 s + sg (fun p => b2 (itsL S s p ≠ oldL S s p)) n.toNat + w) f j := by
  by_cases e : f = 33 ∧ j = s
  · obtain ⟨rfl, rfl⟩ := e
    rw [up_eq, lokI_33, sg_s hn, hw]
    omega
  · have e2 : ∀ T : S9, ∀ x, up T 33 s x f j = T f j := fun T x => if_neg e
    rw [e2]
    by_cases e3 : f = 34 ∧ j = (60 * s + S 32 s) * 96 + n
    · obtain ⟨rfl, rfl⟩ := e3
      rw [up_eq, hv]
      unfold lokI
      rw [if_pos (by omega)]
      congr 1
      omega
    · have e4 : up (lokI S s n) 34 ((60 * s + S 32 s) * 96 + n) v f j = lokI S s n f j := if_neg e3
      rw [e4]
      unfold lokI
      by_cases e5 : f = 34 ∧ (60 * s + S 32 s) * 96 ≤ j ∧ j < (60 * s + S 32 s) * 96 + n
      · rw [if_pos e5, if_pos (by omega)]
      · rw [if_neg e5, if_neg (by omega), if_neg e, if_neg e]
/-- a clipboard's bits written as far as o -/
def pasI (S : S9) (s o : Int) (g : Int → Int) : S9 := fun f j => if f = 24 ∧ 4 * s ≤ j ∧ j < 4 * s + o then g (j - 4 * s) else S f j
theorem pasI_s {S : S9} {s o v j : Int} {f : Nat} {g : Int → Int} (ho : 0 ≤ o) (hv : v = g o) : pasI S s (o + 1) g f j = up (pasI S s o g) 24 (4 * s + o) v f j := by
  by_cases e : f = 24 ∧ j = 4 * s + o
  · obtain ⟨rfl, rfl⟩ := e
    rw [up_eq, hv]
    unfold pasI
    rw [if_pos (by omega)]
    congr 1
    omega
  · have e2 : up (pasI S s o g) 24 (4 * s + o) v f j = pasI S s o g f j := if_neg e
    rw [e2]
    unfold pasI
    by_cases e3 : f = 24 ∧ 4 * s ≤ j ∧ j < 4 * s + o
    · rw [if_pos e3, if_pos (by omega)]
    · rw [if_neg e3, if_neg (by omega)]
theorem pasI_f {S : S9} {s o j : Int} {f : Nat} {g : Int → Int} (h : f ≠ 24) : pasI S s o g f j = S f j := if_neg (fun z => h z.1)
def copS (S : S9) (s t v : Int) : S9 := pasI (up (up S 22 s (t + 1)) 23 s v) s 4 (fun o => b2 (o = s))
/-- may the sessions on the way pass it, as far as the first n -/
def mayN (S : S9) (a b : Int) : Nat → Int
  | 0 => 1
  | n + 1 => b2 (mayN S a b n = 1 ∧ (S 24 (4 * a + n) ≠ 1 ∨ (n : Int) = b ∨ S 25 ((4 * (n : Int) + b) * 3 + (S 22 a - 1)) = 1))
theorem mayN_s (S : S9) (a b : Int) (n : Nat) : mayN S a b (n + 1) = b2 (mayN S a b n = 1 ∧ (S 24 (4 * a + n) ≠ 1 ∨ (n : Int) = b ∨ S 25 ((4 * (n : Int) + b) * 3 + (S 22 a - 1)) = 1)) := rfl
theorem mayN_01 {S : S9} {a b : Int} : ∀ n : Nat, mayN S a b n = 0 ∨ mayN S a b n = 1
  | 0 => Or.inr rfl
  | _ + 1 => b2_01
def pasS (S : S9) (a b : Int) : S9 := pasI (up (up S 22 b (S 22 a)) 23 b (S 23 a)) b 4 (fun o => b2 (o = b ∨ S 24 (4 * a + o) = 1))
/-- rows not copied as far as r -/
def notI (S : S9) (s r : Int) : S9 := fun f j => if f = 29 ∧ 8 * s ≤ j ∧ j < 8 * s + r then 0 else S f j
theorem notI_s {S : S9} {s r j : Int} {f : Nat} (hr : 0 ≤ r) : notI S s (r + 1) f j = up (notI S s r) 29 (8 * s + r) 0 f j := by
  by_cases e : f = 29 ∧ j = 8 * s + r
  · obtain ⟨rfl, rfl⟩ := e
    rw [up_eq]
    unfold notI
    rw [if_pos (by omega)]
  · have e2 : up (notI S s r) 29 (8 * s + r) 0 f j = notI S s r f j := if_neg e
    rw [e2]
    unfold notI
    by_cases e3 : f = 29 ∧ 8 * s ≤ j ∧ j < 8 * s + r
    · rw [if_pos e3, if_pos (by omega)]
    · rw [if_neg e3, if_neg (by omega)]
theorem notI_f {S : S9} {s r j : Int} {f : Nat} (h : f ≠ 29) : notI S s r f j = S f j := if_neg (fun z => h z.1)
def movgS (S : S9) (s : Int) : S9 := notI (up S 26 s 1) s 8
