theorem steps_ok : ∃ Inv : Mem → Prop, StepsOk Inv := sorry
