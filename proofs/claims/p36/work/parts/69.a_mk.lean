/-! reading what was written -/
section
variable {h : zH} {i j n m k : Nat} {v len p : Int} {r : Option Nat}
theorem s_ff : zf (sf h i n v) j m = if j = i ∧ m = n then v else zf h j m := rfl
theorem s_fr : zf (sr h i n r) j m = zf h j m := rfl
theorem s_fn : zf (nw h n k len) j m = if m = n then 0 else zf h j m := rfl
theorem s_rf : zr (sf h i n v) j m = zr h j m := rfl
theorem s_rr : zr (sr h i n r) j m = if j = i ∧ m = n then r else zr h j m := rfl
theorem s_rn : zr (nw h n k len) j m = if m = n then none else zr h j m := rfl
theorem s_Kf : zK (sf h i n v) m = zK h m := rfl
theorem s_Kr : zK (sr h i n r) m = zK h m := rfl
theorem s_Kn : zK (nw h n k len) m = if m = n then k else zK h m := rfl
theorem s_Nf : zN (sf h i n v) m = zN h m := rfl
theorem s_Nr : zN (sr h i n r) m = zN h m := rfl
theorem s_Nn : zN (nw h n k len) m = if m = n then len else zN h m := rfl
theorem s_af : za (sf h i n v) m p = za h m p := rfl
theorem s_ar : za (sr h i n r) m p = za h m p := rfl
theorem s_an : za (nw h n k len) m p = if m = n then 0 else za h m p := rfl
end
