theorem jrows {mi : Nat} {r : jRow} (h : r ∈ jTab mi) : jrok mi r = true := sorry
theorem jmeth {mi : Nat} (h0 : 0 < mi) (h1 : mi < 372) : jmok mi = true := sorry
