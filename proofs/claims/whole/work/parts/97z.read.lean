theorem sim_read {a : Int} (ha : inR a) : Sim (fun τ => X10_read τ a) (fun ρ => X11_read ρ a) := sorry
