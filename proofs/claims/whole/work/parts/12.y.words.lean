theorem kw_1087 : Cond.classLink RX9 23 "[[I" ∈ gWS := gws_of 1087 (by decide +kernel) (by decide +kernel)
