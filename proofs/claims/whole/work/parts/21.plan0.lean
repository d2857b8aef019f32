/-- (stands in until the plan's own part is written) what a plan's numbers say -/
def planOK (wf rf : Nat → Int32) (nr lk least : Int32) (gain : Nat → Int32) : Prop := True ∨ wf 0 = rf 0 ∨ nr = lk ∨ least = gain 0
