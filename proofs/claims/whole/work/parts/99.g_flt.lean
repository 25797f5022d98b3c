/-! floats: what is no NaN -/
/-- a format of the two -/
def fgd (f : FP.Core.Fmt) : Prop := 2 ^ f.p = 2 * f.tails ∧ 1 ≤ f.tails ∧ (f.exps : Int) = f.qmax - f.qmin + 3 ∧ f.qmin ≤ 0 ∧ 40 ≤ f.qmax ∧ 1 ≤ f.p
theorem fgd32 : fgd FP.Core.b32 := by unfold fgd; decide
theorem fgd64 : fgd FP.Core.b64 := by unfold fgd; decide
/-- a datum that is a number or an infinity, as rounding leaves it -/
def fok (f : FP.Core.Fmt) : FP.Core.Datum → Prop
  | .nan => False
  | .inf _ => True
  | .fin _ c q => c < 2 ^ f.p ∧ q ≤ f.qmax
theorem fok_bound {f : FP.Core.Fmt} {s : Bool} {c : Nat} {q : Int} (h : c < 2 ^ f.p) : fok f (FP.Core.bound f s c q) := by
  unfold FP.Core.bound
  split
  · exact ⟨h, by assumption⟩
  · trivial
theorem fok_settle {f : FP.Core.Fmt} (g : fgd f) {s : Bool} {c : Nat} {q : Int} : fok f (FP.Core.settle f s c q) := by
  unfold FP.Core.settle
  split
  · exact fok_bound (by assumption)
  · exact fok_bound (by have := g.1; have := g.2.1; omega)
theorem fok_ratio {f : FP.Core.Fmt} (g : fgd f) {s : Bool} {n d : Nat} {e : Int} : fok f (FP.Core.roundRatio f s n d e) := by
  unfold FP.Core.roundRatio
  split
  · refine ⟨Nat.two_pow_pos _, ?_⟩
    have := g.2.2.2.1; have := g.2.2.2.2.1; omega
  · exact fok_settle g
theorem asm_mod {f : FP.Core.Fmt} {s : Bool} {e t : Nat} (he : e < f.exps) (ht : t < f.tails) : FP.Core.assemble f s e t % (f.exps * f.tails) = e * f.tails + t := by
  unfold FP.Core.assemble
  have h1 : e * f.tails + t < f.exps * f.tails := by
    have : (e + 1) * f.tails ≤ f.exps * f.tails := Nat.mul_le_mul_right _ he
    rw [Nat.add_mul] at this
    omega
  rw [Nat.add_mul, Nat.mul_assoc, Nat.add_assoc, Nat.add_comm, Nat.mul_comm, Nat.add_mul_mod_self_right, Nat.mul_comm]
  exact Nat.mod_eq_of_lt h1
theorem asm_lt {f : FP.Core.Fmt} {s : Bool} {e t : Nat} (he : e < f.exps) (ht : t < f.tails) : FP.Core.assemble f s e t < 2 * (f.exps * f.tails) := by
  unfold FP.Core.assemble
  have h1 : e * f.tails + t < f.exps * f.tails := by
    have : (e + 1) * f.tails ≤ f.exps * f.tails := Nat.mul_le_mul_right _ he
    rw [Nat.add_mul] at this
    omega
  have h2 : s.toNat * (f.exps * f.tails) ≤ 1 * (f.exps * f.tails) := Nat.mul_le_mul_right _ (by cases s <;> decide)
  rw [Nat.add_mul, Nat.mul_assoc]
  omega
theorem fexp {f : FP.Core.Fmt} (g : fgd f) {q : Int} (hq : q ≤ f.qmax) : (q - f.qmin).toNat + 1 ≤ f.exps - 2 := by
  have := g.2.2.1; have := g.2.2.2.1; have := g.2.2.2.2.1
  omega
theorem enc_fin {f : FP.Core.Fmt} {s : Bool} {c : Nat} {q : Int} : FP.Core.encode f (.fin s c q) = if c < f.tails then FP.Core.assemble f s 0 c else FP.Core.assemble f s ((q - f.qmin).toNat + 1) (c - f.tails) := rfl
theorem enc_mod {f : FP.Core.Fmt} (g : fgd f) {d : FP.Core.Datum} (h : fok f d) : FP.Core.encode f d % (f.exps * f.tails) ≤ (f.exps - 1) * f.tails := by
  have h3 : 3 ≤ f.exps := by have := g.2.2.1; have := g.2.2.2.1; have := g.2.2.2.2.1; omega
  have key : ∀ e t : Nat, e ≤ f.exps - 2 → t < f.tails → e * f.tails + t ≤ (f.exps - 1) * f.tails := by
    intro e t he ht
    have : (e + 1) * f.tails ≤ (f.exps - 1) * f.tails := Nat.mul_le_mul_right _ (by omega)
    rw [Nat.add_mul] at this
    omega
  cases d with
  | nan => cases h
  | inf s =>
    show FP.Core.assemble f s (f.exps - 1) 0 % _ ≤ _
    rw [asm_mod (by omega) (by have := g.2.1; omega)]
    exact Nat.le_refl _
  | fin s c q =>
    rw [enc_fin]
    split
    · rw [asm_mod (by omega) (by assumption)]
      exact key _ _ (by omega) (by assumption)
    · have h1 := fexp g h.2
      have h2 : c - f.tails < f.tails := by have := g.1; have := h.1; omega
      rw [asm_mod (by omega) h2]
      exact key _ _ h1 h2
theorem enc_lt {f : FP.Core.Fmt} (g : fgd f) {d : FP.Core.Datum} (h : fok f d) : FP.Core.encode f d < 2 * (f.exps * f.tails) := by
  have h3 : 3 ≤ f.exps := by have := g.2.2.1; have := g.2.2.2.1; have := g.2.2.2.2.1; omega
  cases d with
  | nan => cases h
  | inf s => exact asm_lt (by omega) (by have := g.2.1; omega)
  | fin s c q =>
    rw [enc_fin]
    split
    · exact asm_lt (by omega) (by assumption)
    · have h1 := fexp g h.2
      have h2 : c - f.tails < f.tails := by have := g.1; have := h.1; omega
      exact asm_lt (by omega) h2
theorem asm_T {f : FP.Core.Fmt} {s : Bool} {e t : Nat} (ht : t < f.tails) : FP.Core.fieldT f (FP.Core.assemble f s e t) = t := by
  unfold FP.Core.fieldT FP.Core.assemble
  rw [Nat.add_comm, Nat.add_mul_mod_self_right]
  exact Nat.mod_eq_of_lt ht
theorem asm_E {f : FP.Core.Fmt} {s : Bool} {e t : Nat} (he : e < f.exps) (ht : t < f.tails) : FP.Core.fieldE f (FP.Core.assemble f s e t) = e := by
  unfold FP.Core.fieldE FP.Core.assemble
  rw [Nat.add_comm, Nat.add_mul_div_right _ _ (by omega), Nat.div_eq_of_lt ht, Nat.zero_add, Nat.add_comm, Nat.add_mul_mod_self_right]
  exact Nat.mod_eq_of_lt he
/-- what was written is read: the same digits, no infinity -/
theorem dec_enc {f : FP.Core.Fmt} (g : fgd f) {s : Bool} {c : Nat} {q : Int} (h : fok f (.fin s c q)) : ∃ (t : Bool) (r : Int), FP.Core.decode f (FP.Core.encode f (.fin s c q)) = .fin t c r := by
  have h3 : 3 ≤ f.exps := by have := g.2.2.1; have := g.2.2.2.1; have := g.2.2.2.2.1; omega
  rw [enc_fin]
  split
  · unfold FP.Core.decode
    rw [asm_E (by omega) (by assumption), if_neg (by omega), if_pos rfl, asm_T (by assumption)]
    exact ⟨_, _, rfl⟩
  · have h1 := fexp g h.2
    have h2 : c - f.tails < f.tails := by have := g.1; have := h.1; omega
    unfold FP.Core.decode
    rw [asm_E (by omega) h2, if_neg (by omega), if_neg (by omega), asm_T h2, show f.tails + (c - f.tails) = c by omega]
    exact ⟨_, _, rfl⟩
theorem vf32_of {n : Nat} (h : n % 2147483648 ≤ 2139095040) : vf_n32 (UInt32.ofNat n) := by
  unfold vf_n32
  rw [UInt32.le_iff_toNat_le, UInt32.toNat_and]
  show (UInt32.ofNat n).toNat &&& (2 ^ 31 - 1) ≤ 2139095040
  rw [Nat.and_two_pow_sub_one_eq_mod, UInt32.toNat_ofNat']
  omega
theorem vf64_of {n : Nat} (h : n % 9223372036854775808 ≤ 9218868437227405312) : vf_n64 (UInt64.ofNat n) := by
  unfold vf_n64
  rw [UInt64.le_iff_toNat_le, UInt64.toNat_and]
  show (UInt64.ofNat n).toNat &&& (2 ^ 63 - 1) ≤ 9218868437227405312
  rw [Nat.and_two_pow_sub_one_eq_mod, UInt64.toNat_ofNat']
  omega
theorem vf32_enc {d : FP.Core.Datum} (h : fok FP.Core.b32 d) : vf_n32 (UInt32.ofNat (FP.Core.encode FP.Core.b32 d)) := vf32_of (enc_mod fgd32 h)
theorem vf64_enc {d : FP.Core.Datum} (h : fok FP.Core.b64 d) : vf_n64 (UInt64.ofNat (FP.Core.encode FP.Core.b64 d)) := vf64_of (enc_mod fgd64 h)
theorem near_pos {A B : Nat} (hB : 0 < B) (h : B ≤ A) : 0 < FP.Core.nearest A B := by
  have : 0 < A / B := Nat.div_pos h hB
  unfold FP.Core.nearest
  split
  · omega
  · split <;> omega
/-- a whole number, rounded: a number, not zero where it wasn't -/
theorem of_int {f : FP.Core.Fmt} (g : fgd f) {z : Int} (h0 : 0 ≤ z) (h1 : z ≤ 2147483647) : ∃ (s : Bool) (c : Nat) (q : Int), FP.Core.round f (FP.Core.ofInt z) = .fin s c q ∧ fok f (.fin s c q) ∧ (0 < z → 0 < c) := by
  have hg1 := g.1; have hg2 := g.2.1; have hg3 := g.2.2.2.1; have hg4 := g.2.2.2.2.1; have hg5 := g.2.2.2.2.2
  show ∃ s c q, FP.Core.roundRatio f _ z.natAbs 1 0 = _ ∧ _ ∧ _
  unfold FP.Core.roundRatio
  split
  · exact ⟨_, _, _, rfl, ⟨Nat.two_pow_pos _, by omega⟩, by omega⟩
  · rename_i hz
    have hl : FP.Core.leading z.natAbs 1 = (z.natAbs.log2 : Int) := by
      unfold FP.Core.leading
      have e1 : Nat.log2 1 = 0 := by decide
      simp only [e1, Int.ofNat_zero, Int.sub_zero, Nat.one_mul]
      rw [if_pos]
      · rw [show ((z.natAbs.log2 : Int)).toNat = z.natAbs.log2 from Int.toNat_natCast _]
        exact Nat.le_trans (Nat.log2_self_le hz) (Nat.le_mul_of_pos_right _ (Nat.two_pow_pos _))
    have hlog : z.natAbs.log2 ≤ 31 := by
      have : z.natAbs.log2 < 32 := (Nat.log2_lt hz).mpr (by omega)
      omega
    have hq : FP.Core.quantum f z.natAbs 1 0 = max f.qmin ((z.natAbs.log2 : Int) - ((f.p : Int) - 1)) := by
      unfold FP.Core.quantum
      rw [hl, Int.add_zero]
    unfold FP.Core.roundAt
    rw [hq]
    generalize hqq : max f.qmin ((z.natAbs.log2 : Int) - ((f.p : Int) - 1)) = q
    have q1 : q ≤ 31 := by omega
    have q2 : q.toNat ≤ z.natAbs.log2 := by omega
    have hn : 0 < FP.Core.nearest (FP.Core.unitsNum z.natAbs 0 q) (FP.Core.unitsDen 1 0 q) := by
      unfold FP.Core.unitsNum FP.Core.unitsDen
      refine near_pos (by rw [Nat.one_mul]; exact Nat.two_pow_pos _) ?_
      rw [Nat.one_mul, Int.sub_zero]
      calc 2 ^ q.toNat ≤ 2 ^ z.natAbs.log2 := Nat.pow_le_pow_right (by decide) q2
        _ ≤ z.natAbs := Nat.log2_self_le hz
        _ ≤ _ := Nat.le_mul_of_pos_right _ (Nat.two_pow_pos _)
    generalize FP.Core.nearest (FP.Core.unitsNum z.natAbs 0 q) (FP.Core.unitsDen 1 0 q) = c at hn ⊢
    unfold FP.Core.settle
    split
    · unfold FP.Core.bound
      rw [if_pos (by omega)]
      exact ⟨_, _, _, rfl, ⟨by assumption, by omega⟩, fun _ => hn⟩
    · unfold FP.Core.bound
      rw [if_pos (by omega)]
      exact ⟨_, _, _, rfl, ⟨by omega, by omega⟩, fun _ => by omega⟩
theorem val_i2f {z : Int} (h0 : 0 ≤ z) (h1 : z ≤ 2147483647) : ∃ (s : Bool) (c : Nat) (q : Int), FP.Core.decode FP.Core.b32 (FP.i2f (Int32.ofInt z)).toNat = .fin s c q ∧ (0 < z → 0 < c) := by
  obtain ⟨s, c, q, e1, e2, e3⟩ := of_int fgd32 h0 h1
  obtain ⟨t, r, e4⟩ := dec_enc fgd32 e2
  have hl := enc_lt fgd32 e2
  refine ⟨t, c, r, ?_, e3⟩
  show FP.Core.decode _ (UInt32.ofNat (FP.Core.encode FP.Core.b32 (FP.Core.round FP.Core.b32 (FP.Core.ofInt (Int32.ofInt z).toInt)))).toNat = _
  rw [Int32.toInt_ofInt_of_le (by omega) (by omega), e1, UInt32.toNat_ofNat_of_lt' hl, e4]
theorem val_i2d {z : Int} (h0 : 0 ≤ z) (h1 : z ≤ 2147483647) : ∃ (s : Bool) (c : Nat) (q : Int), FP.Core.decode FP.Core.b64 (FP.i2d (Int32.ofInt z)).toNat = .fin s c q ∧ (0 < z → 0 < c) := by
  obtain ⟨s, c, q, e1, e2, e3⟩ := of_int fgd64 h0 h1
  obtain ⟨t, r, e4⟩ := dec_enc fgd64 e2
  have hl := enc_lt fgd64 e2
  refine ⟨t, c, r, ?_, e3⟩
  show FP.Core.decode _ (UInt64.ofNat (FP.Core.encode FP.Core.b64 (FP.Core.round FP.Core.b64 (FP.Core.ofInt (Int32.ofInt z).toInt)))).toNat = _
  rw [Int32.toInt_ofInt_of_le (by omega) (by omega), e1, UInt64.toNat_ofNat_of_lt' hl, e4]
/-- shares -/
def fsh (a b : Int) : UInt32 := FP.fdiv (FP.i2f (Int32.ofInt a)) (FP.i2f (Int32.ofInt b))
def dsh (a b : Int) : UInt64 := FP.ddiv (FP.i2d (Int32.ofInt a)) (FP.i2d (Int32.ofInt b))
theorem fsh_ok {a b : Int} (h0 : 0 ≤ a) (h1 : a ≤ 2147483647) (h2 : 0 < b) (h3 : b ≤ 2147483647) : vf_n32 (fsh a b) := by
  obtain ⟨s, c, q, e1, -⟩ := val_i2f h0 h1
  obtain ⟨t, d, r, e2, e3⟩ := val_i2f (by omega : 0 ≤ b) h3
  show vf_n32 (UInt32.ofNat (FP.Core.encode FP.Core.b32 (FP.Core.quotient FP.Core.b32 _ _)))
  refine vf32_enc ?_
  rw [e1, e2]
  show fok _ (if d = 0 then _ else _)
  rw [if_neg (by have := e3 h2; omega)]
  exact fok_ratio fgd32
theorem dsh_ok {a b : Int} (h0 : 0 ≤ a) (h1 : a ≤ 2147483647) (h2 : 0 < b) (h3 : b ≤ 2147483647) : vf_n64 (dsh a b) := by
  obtain ⟨s, c, q, e1, -⟩ := val_i2d h0 h1
  obtain ⟨t, d, r, e2, e3⟩ := val_i2d (by omega : 0 ≤ b) h3
  show vf_n64 (UInt64.ofNat (FP.Core.encode FP.Core.b64 (FP.Core.quotient FP.Core.b64 _ _)))
  refine vf64_enc ?_
  rw [e1, e2]
  show fok _ (if d = 0 then _ else _)
  rw [if_neg (by have := e3 h2; omega)]
  exact fok_ratio fgd64
