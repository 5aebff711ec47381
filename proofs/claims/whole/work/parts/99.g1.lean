/-! the law's turns: the switch -/
theorem am_sw_k {l : List Nat} {z lo : Int} {k : Nat → Prop} {d : Nat} (j t : Nat) (h1 : z = lo + (j : Int)) (h2 : l[j]? = some t) (h3 : k t) : am_sw l z lo k d := am_sw_j h1 h2 h3
