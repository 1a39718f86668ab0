theorem it_no {L : g_L} {x : Int32} (h : L.length ≤ rk_ L x) (hx : x ≠ -1) : ¬ fn_ L (rk_ L x) = x := fun q => absurd (fn_in q hx) (by omega)
