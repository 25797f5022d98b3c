/-! clients and keys -/
def IC (S : S9) : Prop := ∀ c, 0 ≤ c → c < S 2 0 → 0 ≤ S 35 c ∧ S 35 c < S 1 0
def IK1 (S : S9) (s k : Int) : Prop := hasW S s (S 18 (20 * s + k)) ∧ 0 ≤ S 20 (20 * s + k) ∧ S 20 (20 * s + k) < S 7 (S 18 (20 * s + k)) * S 8 (S 18 (20 * s + k)) ∧ 0 ≤ S 21 (20 * s + k) ∧ S 21 (20 * s + k) < S 2 0
def IK (S : S9) : Prop := ∀ s k, 0 ≤ s → s < 4 → 0 ≤ k → k < S 17 s → IK1 S s k
def seenN (S : S9) (c s p v : Int) : Nat → Int
  | 0 => v
  | n + 1 => if S 21 (20 * s + n) = c ∧ placeOf S (S 18 (20 * s + n)) (S 20 (20 * s + n)) = p then S 19 (20 * s + n) else seenN S c s p v n
def seen (S : S9) (c p : Int) : Int := seenN S c (S 35 c) p (S 40 (96 * c + p)) (S 17 (S 35 c)).toNat
def cntB (S : S9) (c : Int) : Int := sg (fun p => b2 (S 40 (96 * c + p) ≠ screenAt S (S 35 c) p)) (96 : Int).toNat
def gues (S : S9) (c : Int) : Int := sg (fun k => b2 (S 21 (20 * S 35 c + k) = c)) (S 17 (S 35 c)).toNat
def keysW (S : S9) (s w : Int) : Int := sg (fun k => b2 (S 18 (20 * s + k) = w)) (S 17 s).toNat
/-- a key typed -/
def typS (S : S9) (c t : Int) : S9 := up (up (up (up (up S 18 (20 * S 35 c + S 17 (S 35 c)) (topOf S (S 35 c))) 19 (20 * S 35 c + S 17 (S 35 c)) (101 + t - 97)) 20 (20 * S 35 c + S 17 (S 35 c)) ((S 9 (topOf S (S 35 c)) + keysW S (S 35 c) (topOf S (S 35 c))) % (S 7 (topOf S (S 35 c)) * S 8 (topOf S (S 35 c))))) 21 (20 * S 35 c + S 17 (S 35 c)) c) 17 (S 35 c) (S 17 (S 35 c) + 1)
def joinS (S : S9) (s b : Int) : S9 := up (up (up S 35 (S 2 0) s) 36 (S 2 0) b) 2 0 (S 2 0 + 1)
/-- a key done: what it writes -/
def keyW (S : S9) (s k : Int) : S9 := if S 10 (S 18 (20 * s + k)) = 1 then up (up S 14 (96 * S 18 (20 * s + k) + S 9 (S 18 (20 * s + k))) (if S 13 (S 18 (20 * s + k)) = 1 then 7 else S 19 (20 * s + k))) 9 (S 18 (20 * s + k)) ((S 9 (S 18 (20 * s + k)) + 1) % (S 7 (S 18 (20 * s + k)) * S 8 (S 18 (20 * s + k)))) else S
def keyR (S : S9) (s k : Int) : Int := b2 (0 ≤ placeOf S (S 18 (20 * s + k)) (S 20 (20 * s + k)) ∧ S 10 (S 18 (20 * s + k)) = 1 ∧ screenAt (keyW S s k) s (placeOf S (S 18 (20 * s + k)) (S 20 (20 * s + k))) = S 19 (20 * s + k))
def key1 (S : S9) (s k : Int) : S9 := up (up (keyW S s k) 38 (S 21 (20 * s + k)) (S 38 (S 21 (20 * s + k)) + 1)) 39 (S 21 (20 * s + k)) (S 39 (S 21 (20 * s + k)) + keyR S s k)
def keyN (S : S9) (s : Int) : Nat → S9
  | 0 => S
  | n + 1 => key1 (keyN S s n) s n
def doK (S : S9) (s : Int) : S9 := up (keyN S s (S 17 s).toNat) 17 s 0
theorem keyW_f {S : S9} {s k j : Int} {f : Nat} (h : f ≠ 9 ∧ f ≠ 14) : keyW S s k f j = S f j := by
  unfold keyW
  split
  · rw [up_f (by omega), up_f (by omega)]
  · rfl
theorem key1_f {S : S9} {s k j : Int} {f : Nat} (h : f ≠ 9 ∧ f ≠ 14 ∧ f ≠ 38 ∧ f ≠ 39) : key1 S s k f j = S f j := by
  unfold key1
  rw [up_f (by omega), up_f (by omega), keyW_f (by omega)]
theorem keyN_f {S : S9} {s j : Int} {f : Nat} (h : f ≠ 9 ∧ f ≠ 14 ∧ f ≠ 38 ∧ f ≠ 39) : ∀ n : Nat, keyN S s n f j = S f j
  | 0 => rfl
  | n + 1 => by
    unfold keyN
    rw [key1_f h, keyN_f h n]
theorem placeOf_in {S : S9} {w c : Int} : -1 ≤ placeOf S w c ∧ placeOf S w c < 96 := by
  unfold placeOf
  split <;> omega
