/-! counts, on both sides -/
variable {T : TS}
theorem HT1 (T : TS) : HT T = hp (gT T) 17 (T.1.2.2 1) := HT_p T (j := 1) (by decide)
theorem hp1 (T : TS) (Q : PV) : hp (gT T) 17 Q = HT (uP T 1 Q) := hp_T T (j := 1) (by decide) Q
