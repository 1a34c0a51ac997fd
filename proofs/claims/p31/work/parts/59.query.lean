/-! questions: class in its wrapper, and reference -/
def agr (k : Int32) (o : Nat → Int64) (b r : Int32) : Prop := r = k ∧ (k = 0 → o 0 = b.toInt64)
theorem zcx_eq {A R : Type} {x : Option (String ⊕ A)} {h : String → Option R} {f : A → Option R} {a : A} (e : x = some (.inr a)) : zcx x h f = f a := by rw [e]; rfl
theorem zcx_eqE {A R : Type} {x : Option (String ⊕ A)} {h : String → Option R} {f : A → Option R} {E : String} (e : x = some (.inl E)) : zcx x h f = h E := by rw [e]; rfl
theorem updL_0 (o : Nat → Int64) (x : Int64) : vp_updL o (0 : Int32).toNatClampNeg x 0 = x := if_pos rfl
section
variable {d : Nat} {a : Int64} {c : Nat → Int32}
end
