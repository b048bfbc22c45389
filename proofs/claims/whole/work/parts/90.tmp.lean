def Rel (σ : GS) (μ : MS) : Prop := True
theorem all_eq : AllEq Rel := sorry
theorem rel_0 : Rel gs0 ms0 := trivial
