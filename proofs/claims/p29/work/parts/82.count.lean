/-! counts, on both sides -/
variable {T : TS}
theorem HT1 (T : TS) : HT T = hp (gT T) 17 (T.1.2.2 1) := HT_p T (j := 1) (by decide)
theorem hp1 (T : TS) (Q : PV) : hp (gT T) 17 Q = HT (uP T 1 Q) := hp_T T (j := 1) (by decide) Q
def coF (P : PV) (n s w : Nat) : Int32 := if w = 0 then P.1 0 else if w = 1 then P.1 1 else if w = 2 then P.1 2 else if w = 3 then P.1 3 else if w = 4 then maS (rowP P) 3 n else if w = 5 then maS (rowP P) 5 n else if w = 6 then P.1 4 else if w = 7 then suF (rowP P) 10 n 0 0 else nI s
