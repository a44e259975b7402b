theorem kw_1092 : Cond.classLink RX9 23 "[[I" ∈ gWS := gws_of 1092 (by decide +kernel) (by decide +kernel)
