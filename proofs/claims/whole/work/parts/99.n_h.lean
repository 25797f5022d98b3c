/-! what the law's helpers answer -/
theorem dec_nn {f : FP.Core.Fmt} (g : fgd f) {d : FP.Core.Datum} (h : fok f d) : FP.Core.decode f (FP.Core.encode f d) ≠ .nan := by
  have h3 : 3 ≤ f.exps := by have := g.2.2.1; have := g.2.2.2.1; have := g.2.2.2.2.1; omega
  cases d with
  | nan => cases h
  | inf s =>
    show FP.Core.decode f (FP.Core.assemble f s (f.exps - 1) 0) ≠ .nan
    unfold FP.Core.decode
    rw [asm_E (by omega) (by have := g.2.1; omega), if_pos rfl, asm_T (by have := g.2.1; omega), if_pos rfl]
    intro z
    cases z
  | fin s c q =>
    obtain ⟨t, r, e⟩ := dec_enc g h
    rw [e]
    intro z
    cases z
theorem val32_enc {d : FP.Core.Datum} (h : fok FP.Core.b32 d) : FP.Core.decode FP.Core.b32 (UInt32.ofNat (FP.Core.encode FP.Core.b32 d)).toNat ≠ .nan := by
  rw [UInt32.toNat_ofNat_of_lt' (enc_lt fgd32 h)]
  exact dec_nn fgd32 h
theorem val64_enc {d : FP.Core.Datum} (h : fok FP.Core.b64 d) : FP.Core.decode FP.Core.b64 (UInt64.ofNat (FP.Core.encode FP.Core.b64 d)).toNat ≠ .nan := by
  rw [UInt64.toNat_ofNat_of_lt' (enc_lt fgd64 h)]
  exact dec_nn fgd64 h
theorem fsh_nn {a b : Int} (h0 : 0 ≤ a) (h1 : a ≤ 2147483647) (h2 : 0 < b) (h3 : b ≤ 2147483647) : FP.Core.decode FP.Core.b32 (fsh a b).toNat ≠ .nan := by
  obtain ⟨s, c, q, e1, -⟩ := val_i2f h0 h1
  obtain ⟨t, d, r, e2, e3⟩ := val_i2f (by omega : 0 ≤ b) h3
  show FP.Core.decode _ (UInt32.ofNat (FP.Core.encode FP.Core.b32 (FP.Core.quotient FP.Core.b32 _ _))).toNat ≠ _
  refine val32_enc ?_
  rw [e1, e2]
  show fok _ (if d = 0 then _ else _)
  rw [if_neg (by have := e3 h2; omega)]
  exact fok_ratio fgd32
theorem dsh_nn {a b : Int} (h0 : 0 ≤ a) (h1 : a ≤ 2147483647) (h2 : 0 < b) (h3 : b ≤ 2147483647) : FP.Core.decode FP.Core.b64 (dsh a b).toNat ≠ .nan := by
  obtain ⟨s, c, q, e1, -⟩ := val_i2d h0 h1
  obtain ⟨t, d, r, e2, e3⟩ := val_i2d (by omega : 0 ≤ b) h3
  show FP.Core.decode _ (UInt64.ofNat (FP.Core.encode FP.Core.b64 (FP.Core.quotient FP.Core.b64 _ _))).toNat ≠ _
  refine val64_enc ?_
  rw [e1, e2]
  show fok _ (if d = 0 then _ else _)
  rw [if_neg (by have := e3 h2; omega)]
  exact fok_ratio fgd64
theorem f2d_eq {x : UInt32} (h : FP.Core.decode FP.Core.b32 x.toNat ≠ .nan) : FP.f2d x = UInt64.ofNat (FP.Core.encode FP.Core.b64 (FP.Core.round FP.Core.b64 (FP.Core.decode FP.Core.b32 x.toNat))) := by
  unfold FP.f2d FP.Core.fIsNaN FP.Core.isNaN
  rw [if_neg (by rw [decide_eq_true_eq]; exact h)]
  rfl
theorem round_ok {f : FP.Core.Fmt} (g : fgd f) {d : FP.Core.Datum} (h : d ≠ .nan) : fok f (FP.Core.round f d) := by
  cases d with
  | nan => exact absurd rfl h
  | inf s => trivial
  | fin s c q => exact fok_ratio g
theorem f2d_ok {x : UInt32} (h : FP.Core.decode FP.Core.b32 x.toNat ≠ .nan) : vf_n64 (FP.f2d x) := by
  rw [f2d_eq h]
  exact vf64_enc (round_ok fgd64 h)
theorem f2d_nn {x : UInt32} (h : FP.Core.decode FP.Core.b32 x.toNat ≠ .nan) : FP.Core.decode FP.Core.b64 (FP.f2d x).toNat ≠ .nan := by
  rw [f2d_eq h]
  exact val64_enc (round_ok fgd64 h)
theorem cmp_self {a : Int} : compare a a = Ordering.eq := by
  show compareOfLessAndEq a a = _
  unfold compareOfLessAndEq
  rw [if_neg (Int.lt_irrefl a), if_pos rfl]
theorem order_rf {d : FP.Core.Datum} (h : d ≠ .nan) : FP.Core.order d d = some .eq := by
  cases d with
  | nan => exact absurd rfl h
  | inf s => exact congrArg some cmp_self
  | fin s c q => exact congrArg some cmp_self
theorem dcmp_rf {x : UInt64} (h : FP.Core.decode FP.Core.b64 x.toNat ≠ .nan) : FP.dcmp x x = some .eq := order_rf h
theorem e_i2lw {l : Launch} {Y : zM} {Q : zO → zH → Prop} {k n pc : Nat} {ls st : List zV} {h : zH} {a : Int} (d : decode (zMc Y) pc = .ok (.i2l, 1)) (K : AW l Y Q k n (pc + 1) ls (zL (Int32.ofInt a).toInt :: st) h) : AW l Y Q k n pc ls (zI a :: st) h := by
  intro p e s m args below meth c D dA ad0 h0 A C H locs ad lm hP hE hS hL o1 o2
  refine lv_i2l (v := Int64.ofInt (Int32.ofInt a).toInt) C.1 C.2.1 d ?_ (K p e s m args below meth c D dA ad0 h0 A C H locs ad lm hP hE hS hL o1 (zo_cons trivial (zo_tl o2)))
  have h1 := Int32.le_toInt (Int32.ofInt a)
  have h2 := Int32.toInt_lt (Int32.ofInt a)
  rw [← Int64.toInt_inj, Int32.toInt_toInt64, Int64.toInt_ofInt_of_le (by omega) (by omega)]
def QL (S : S9) (h : zH) (k w : Int) (S' : S9) : zO → zH → Prop := fun o h' => o = .inl (some (zI k)) ∧ (∀ m, (m = 7 ∨ (99 ≤ m ∧ m ≤ 142)) → eqAt m h h') ∧ (zK h' 6 = 102 ∧ zN h' 6 = 1) ∧ ((k = 0 ∧ zm h' 6 0 = w ∧ RC S' h') ∨ (0 < k ∧ RC S h'))
def QD (S : S9) (h : zH) (k : Int) (w : UInt64) (S' : S9) : zO → zH → Prop := fun o h' => o = .inl (some (zI k)) ∧ (∀ m, (m = 6 ∨ (99 ≤ m ∧ m ≤ 142)) → eqAt m h h') ∧ (zK h' 7 = 103 ∧ zN h' 7 = 1) ∧ ((k = 0 ∧ zd h' 7 0 = w ∧ RC S' h') ∨ (0 < k ∧ RC S h'))
theorem QC_l {S S' : S9} {h h' : zH} {k : Int} {xs : List String} {v : zV} {u : Option zV} (q : QC S h k xs v S' (.inl u) h') : (∀ m, (m = 6 ∨ m = 7 ∨ (99 ≤ m ∧ m ≤ 142)) → eqAt m h h') ∧ k = 0 ∧ u = some v ∧ RC S' h' := by
  obtain ⟨q1, ⟨q2, q3, q4⟩ | ⟨q2, ⟨E, q3, q5⟩, q4⟩⟩ := q
  · exact ⟨q1, q2, Sum.inl.inj q3, q4⟩
  · cases q5
theorem QC_r {S S' : S9} {h h' : zH} {k : Int} {xs : List String} {v : zV} {E : String} (q : QC S h k xs v S' (.inr E) h') : (∀ m, (m = 6 ∨ m = 7 ∨ (99 ≤ m ∧ m ≤ 142)) → eqAt m h h') ∧ 0 < k ∧ xs[(k - 1).toNat]? = some E ∧ RC S h' := by
  obtain ⟨q1, ⟨q2, q3, q4⟩ | ⟨q2, ⟨F, q3, q5⟩, q4⟩⟩ := q
  · cases q3
  · cases q5
    exact ⟨q1, q2, q3, q4⟩
theorem xs1 {a E : String} {n : Nat} (h : [a][n]? = some E) : n = 0 ∧ a = E := by
  match n, h with
  | 0, h => exact ⟨rfl, Option.some.inj h⟩
theorem xs2 {a b E : String} {n : Nat} (h : [a, b][n]? = some E) : (n = 0 ∧ a = E) ∨ (n = 1 ∧ b = E) := by
  match n, h with
  | 0, h => exact Or.inl ⟨rfl, Option.some.inj h⟩
  | 1, h => exact Or.inr ⟨rfl, Option.some.inj h⟩
theorem xs3 {a b c E : String} {n : Nat} (h : [a, b, c][n]? = some E) : (n = 0 ∧ a = E) ∨ (n = 1 ∧ b = E) ∨ (n = 2 ∧ c = E) := by
  match n, h with
  | 0, h => exact Or.inl ⟨rfl, Option.some.inj h⟩
  | 1, h => exact Or.inr (Or.inl ⟨rfl, Option.some.inj h⟩)
  | 2, h => exact Or.inr (Or.inr ⟨rfl, Option.some.inj h⟩)
theorem xs4 {a b c d E : String} {n : Nat} (h : [a, b, c, d][n]? = some E) : (n = 0 ∧ a = E) ∨ (n = 1 ∧ b = E) ∨ (n = 2 ∧ c = E) ∨ (n = 3 ∧ d = E) := by
  match n, h with
  | 0, h => exact Or.inl ⟨rfl, Option.some.inj h⟩
  | 1, h => exact Or.inr (Or.inl ⟨rfl, Option.some.inj h⟩)
  | 2, h => exact Or.inr (Or.inr (Or.inl ⟨rfl, Option.some.inj h⟩))
  | 3, h => exact Or.inr (Or.inr (Or.inr ⟨rfl, Option.some.inj h⟩))
theorem RC_67 {S : S9} {h h' : zH} (hf : ∀ m, m ≠ 6 → m ≠ 7 → eqAt m h h') (a : RC S h) : RC S h' := by
  obtain ⟨a1, a2, a3, a4, a5, a6⟩ := a
  refine ⟨RTop_at (fun m m1 m2 => hf m (by omega) (by omega)) a1, fun t ht => RSes_at (fun m hm => ?_) (fun m m1 m2 => hf m (by omega) (by omega)) (a2 t ht), fun c hc => RCli_at (fun k hk => hf _ (by unfold nC; omega) (by unfold nC; omega)) (a3 c hc), fun t j t1 t4 t0 hj => (hf _ (by unfold nS; omega) (by unfold nS; omega)).1.trans (a4 t j t1 t4 t0 hj), fun t w t0 t1 w0 w1 => ?_, fun c k c1 c6 c0 hk => (hf _ (by unfold nC; omega) (by unfold nC; omega)).1.trans (a6 c k c1 c6 c0 hk)⟩
  · unfold nmS nS nW at hm
    rcases hm with ⟨j, j1, j2⟩ | ⟨w, w1, w2, w3⟩
    · exact hf m (by omega) (by omega)
    · exact hf m (by omega) (by omega)
  · have y := a5 t w t0 t1 w0 w1
    exact ⟨(hf _ (by unfold nW; omega) (by unfold nW; omega)).1.trans y.1, (hf _ (by unfold nW; omega) (by unfold nW; omega)).1.trans y.2⟩
theorem clLh_19 : Cond.classLink RL 19 exI ∈ zT := zTm (by decide +kernel) rfl
theorem clLh_21 : Cond.classLink RL 21 exA ∈ zT := zTm (by decide +kernel) rfl
theorem clLh_13 : Cond.classLink RL 13 exS ∈ zT := zTm (by decide +kernel) rfl
theorem clLh_86 : Cond.classLink RL 86 exU ∈ zT := zTm (by decide +kernel) rfl
theorem clLh_74 : Cond.classLink RL 74 exN ∈ zT := zTm (by decide +kernel) rfl
theorem clLh_95 : Cond.classLink RL 95 exM ∈ zT := zTm (by decide +kernel) rfl
theorem exI_x : exI ∈ zXs := by decide +kernel
theorem exA_x : exA ∈ zXs := by decide +kernel
theorem exS_x : exS ∈ zXs := by decide +kernel
theorem exU_x : exU ∈ zXs := by decide +kernel
theorem exN_x : exN ∈ zXs := by decide +kernel
theorem exM_x : exM ∈ zXs := by decide +kernel
