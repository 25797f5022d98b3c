/-! public methods: what they begin with -/
def exI : String := "java/lang/IndexOutOfBoundsException"
def exA : String := "java/lang/IllegalArgumentException"
def exS : String := "java/lang/IllegalStateException"
def exU : String := "java/lang/UnsupportedOperationException"
def exM : String := "java/lang/ArithmeticException"
def exN : String := "java/util/NoSuchElementException"
/-- an answer where P, a throw where not -/
def Qat (P : Prop) (v : zV) (E0 : String) (h : zH) : zO → zH → Prop := fun o h' => h' = h ∧ ((P ∧ o = .inl (some v)) ∨ (¬ P ∧ o = .inr E0))
theorem Qat_l {P : Prop} {v : zV} {E0 : String} {h h' : zH} {w : Option zV} (q : Qat P v E0 h (.inl w) h') : h' = h ∧ P ∧ w = some v := by
  obtain ⟨q1, ⟨q2, q3⟩ | ⟨q2, q3⟩⟩ := q
  · exact ⟨q1, q2, Sum.inl.inj q3⟩
  · cases q3
theorem Qat_r {P : Prop} {v : zV} {E0 E : String} {h h' : zH} (q : Qat P v E0 h (.inr E) h') : h' = h ∧ ¬ P ∧ E = E0 := by
  obtain ⟨q1, ⟨q2, q3⟩ | ⟨q2, q3⟩⟩ := q
  · cases q3
  · exact ⟨q1, q2, Sum.inr.inj q3⟩
theorem Qat_yes {P : Prop} {v w : zV} {E0 : String} {h : zH} (p : P) (e : w = v) : Qat P v E0 h (.inl (some w)) h := ⟨rfl, Or.inl ⟨p, by rw [e]⟩⟩
theorem Qat_not {P : Prop} {v : zV} {E0 E : String} {h : zH} (p : ¬ P) (e : E = E0) : Qat P v E0 h (.inr E) h := ⟨rfl, Or.inr ⟨p, by rw [e]⟩⟩
theorem QC_no {S S' : S9} {h h' : zH} {k x : Int} {xs : List String} {v : zV} {E : String} (hk : k = x) (hx : 0 < x) (hE : xs[(x - 1).toNat]? = some E) (hf : ∀ m, (m = 6 ∨ m = 7 ∨ (99 ≤ m ∧ m ≤ 142)) → eqAt m h h') (hR : RC S h') : QC S h k xs v S' (.inr E) h' := ⟨hf, Or.inr ⟨by omega, ⟨E, by rw [hk]; exact hE, rfl⟩, hR⟩⟩
theorem QC_ok {S S' : S9} {h h' : zH} {k : Int} {xs : List String} {v w : zV} (hk : k = 0) (hv : w = v) (hf : ∀ m, (m = 6 ∨ m = 7 ∨ (99 ≤ m ∧ m ≤ 142)) → eqAt m h h') (hR : RC S' h') : QC S h k xs v S' (.inl (some w)) h' := ⟨hf, Or.inl ⟨hk, by rw [hv], hR⟩⟩
theorem ses_none {S : S9} {s : Int} {n : Nat} (h : (if s < S 1 0 then some n else none) = none) : ¬ s < S 1 0 := by
  intro z
  rw [if_pos z] at h
  cases h
theorem ses_some {a b : Int} {n m : Nat} (h : (if a < b then some n else none) = some m) : a < b ∧ m = n := by
  by_cases z : a < b
  · rw [if_pos z] at h
    exact ⟨z, (Option.some.inj h).symm⟩
  · rw [if_neg z] at h
    cases h
theorem ses_none2 {a b : Int} {n : Nat} (h : (if a < b then some n else none) = none) : ¬ a < b := by
  intro z
  rw [if_pos z] at h
  cases h
