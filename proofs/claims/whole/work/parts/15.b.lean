def f_L_law_1692 (n : Nat) (f : Nat → Int32) (T : gT) (M : gM) (a1 : Nat) (a2 : Nat) (a3 : Nat) (i4 : Int32) : Option (Int32 ⊕ (Int32 × gT × gM)) :=
  some (.inr ((i4 + (6 : Int32)), T, M))
def f_L_law_1573 (n : Nat) (f : Nat → Int32) (T : gT) (M : gM) (a1 : Nat) (a2 : Nat) (a3 : Nat) (i4 : Int32) (i5 : Int32) (b0 : Nat) (k1 : Int32) (k2 : Int32) : Option (Int32 ⊕ (Int32 × gT × gM)) :=
  (f_X9_setKeeps T M b0 k1 k2).bind fun x1 =>
  (f_X9_thrown T x1.2 a2).bind fun x2 =>
  if x2 = i5 then
  (
    if ¬ i5 = 0 then
    (
      f_L_law_1692 n f T x1.2 a1 a2 a3 i4
    )
    else
    (
      (aldl T x1.2 a3 (0 : Int32)).bind fun v5 =>
      if (lg_cmp v5 x1.1.toInt64) = 0 then
      (
        f_L_law_1692 n f T x1.2 a1 a2 a3 i4
      )
      else
      (
        some (.inl (0 : Int32))
      )
    )
  )
  else
  (
    some (.inl (0 : Int32))
  )
def f_L_law_1546 (n : Nat) (f : Nat → Int32) (T : gT) (M : gM) (a1 : Nat) (a2 : Nat) (a3 : Nat) (i4 : Int32) (b0 : Nat) (k1 : Int32) (k2 : Int32) : Option (Int32 ⊕ (Int32 × gT × gM)) :=
  (f_L_setKeeps T M b0 k1 k2 a3).bind fun x7 =>
  (scr n f (i4 + (1 : Int32))).bind fun v8 =>
  (scr n f (i4 + (2 : Int32))).bind fun v9 =>
  if v9 = 0 then
  (
    f_L_law_1573 n f T x7.2 a1 a2 a3 i4 x7.1 a2 v8 (0 : Int32)
  )
  else
  (
    f_L_law_1573 n f T x7.2 a1 a2 a3 i4 x7.1 a2 v8 (1 : Int32)
  )
def f_L_law_B23 (n : Nat) (f : Nat → Int32) (T : gT) (M : gM) (a1 : Nat) (a2 : Nat) (a3 : Nat) (i4 : Int32) : Option (Int32 ⊕ (Int32 × gT × gM)) :=
  if ((Int32.ofNat n) - (6 : Int32)) < i4 then
  (
    some (.inl (1 : Int32))
  )
  else
  (
    (scr n f i4).bind fun v12 =>
    if (v12 &&& (31 : Int32)) = (0 : Int32) then
    (
      (scr n f (i4 + (1 : Int32))).bind fun v14 =>
      (scr n f (i4 + (2 : Int32))).bind fun v15 =>
      (scr n f (i4 + (3 : Int32))).bind fun v16 =>
      (scr n f (i4 + (4 : Int32))).bind fun v17 =>
      (scr n f (i4 + (5 : Int32))).bind fun v18 =>
      (f_X8_append T M a1 v14 v15 v16 v17 v18).bind fun x19 =>
      (scr n f (i4 + (1 : Int32))).bind fun v20 =>
      (scr n f (i4 + (2 : Int32))).bind fun v21 =>
      (scr n f (i4 + (3 : Int32))).bind fun v22 =>
      (scr n f (i4 + (4 : Int32))).bind fun v23 =>
      (scr n f (i4 + (5 : Int32))).bind fun v24 =>
      (f_X9_append T x19.2 a2 v20 v21 v22 v23 v24).bind fun x25 =>
      if x19.1 = x25.1 then
      (
        f_L_law_1692 n f T x25.2 a1 a2 a3 i4
      )
      else
      (
        some (.inl (0 : Int32))
      )
    )
    else (
    if (v12 &&& (31 : Int32)) = (1 : Int32) then
    (
      (scr n f (i4 + (1 : Int32))).bind fun v27 =>
      (f_L_load T M a1 v27 a3).bind fun x28 =>
      (scr n f (i4 + (1 : Int32))).bind fun v32 =>
      (f_X9_load x28.2.1 x28.2.2 a2 v32).bind fun x33 =>
      (f_X9_thrown x28.2.1 x33.2 a2).bind fun x34 =>
      if x34 = x28.1 then
      (
        if ¬ x28.1 = 0 then
        (
          f_L_law_1692 n f x28.2.1 x33.2 a1 a2 a3 i4
        )
        else
        (
          (aldl x28.2.1 x33.2 a3 (0 : Int32)).bind fun v37 =>
          if (lg_cmp v37 x33.1.toInt64) = 0 then
          (
            f_L_law_1692 n f x28.2.1 x33.2 a1 a2 a3 i4
          )
          else
          (
            some (.inl (0 : Int32))
          )
        )
      )
      else
      (
        some (.inl (0 : Int32))
      )
    )
    else (
    if (v12 &&& (31 : Int32)) = (2 : Int32) then
    (
      (f_X8_errorOffset T M a1).bind fun x39 =>
      (f_X9_errorOffset T M a2).bind fun x40 =>
      if x39 = x40.1 then
      (
        f_L_law_1692 n f T x40.2 a1 a2 a3 i4
      )
      else
      (
        some (.inl (0 : Int32))
      )
    )
    else (
    if (v12 &&& (31 : Int32)) = (3 : Int32) then
    (
      (f_X8_libraries T M a1).bind fun x42 =>
      (f_X9_libraries T M a2).bind fun x43 =>
      if x42 = x43.1 then
      (
        f_L_law_1692 n f T x43.2 a1 a2 a3 i4
      )
      else
      (
        some (.inl (0 : Int32))
      )
    )
    else (
    if (v12 &&& (31 : Int32)) = (4 : Int32) then
    (
      (f_X8_names T M a1).bind fun x45 =>
      (f_X9_names T M a2).bind fun x46 =>
      if x45 = x46.1 then
      (
        f_L_law_1692 n f T x46.2 a1 a2 a3 i4
      )
      else
      (
        some (.inl (0 : Int32))
      )
    )
    else (
    if (v12 &&& (31 : Int32)) = (5 : Int32) then
    (
      (f_X8_share T M a1).bind fun x48 =>
      (f_X9_share T M a2).bind fun x49 =>
      if x48 = x49.1 then
      (
        f_L_law_1692 n f T x49.2 a1 a2 a3 i4
      )
      else
      (
        some (.inl (0 : Int32))
      )
    )
    else (
    if (v12 &&& (31 : Int32)) = (6 : Int32) then
    (
      (scr n f (i4 + (1 : Int32))).bind fun v51 =>
      (scr n f (i4 + (2 : Int32))).bind fun v52 =>
      (f_L_library T M a1 v51 v52 a3).bind fun x53 =>
      (scr n f (i4 + (1 : Int32))).bind fun v54 =>
      (scr n f (i4 + (2 : Int32))).bind fun v55 =>
      (f_X9_library T x53.2 a2 v54 v55).bind fun x56 =>
      (f_X9_thrown T x56.2 a2).bind fun x57 =>
      if x57 = x53.1 then
      (
        if ¬ x53.1 = 0 then
        (
          f_L_law_1692 n f T x56.2 a1 a2 a3 i4
        )
        else
        (
          (aldl T x56.2 a3 (0 : Int32)).bind fun v60 =>
          if (lg_cmp v60 x56.1.toInt64) = 0 then
          (
            f_L_law_1692 n f T x56.2 a1 a2 a3 i4
          )
          else
          (
            some (.inl (0 : Int32))
          )
        )
      )
      else
      (
        some (.inl (0 : Int32))
      )
    )
    else (
    if (v12 &&& (31 : Int32)) = (7 : Int32) then
    (
      (scr n f (i4 + (1 : Int32))).bind fun v62 =>
      (scr n f (i4 + (2 : Int32))).bind fun v63 =>
      (f_L_offer T M a1 v62 v63 a3).bind fun x64 =>
      (scr n f (i4 + (1 : Int32))).bind fun v65 =>
      (scr n f (i4 + (2 : Int32))).bind fun v66 =>
      (f_X9_offer T x64.2 a2 v65 v66).bind fun x67 =>
      (f_X9_thrown T x67.2 a2).bind fun x68 =>
      if x68 = x64.1 then
      (
        if ¬ x64.1 = 0 then
        (
          f_L_law_1692 n f T x67.2 a1 a2 a3 i4
        )
        else
        (
          (aldl T x67.2 a3 (0 : Int32)).bind fun v71 =>
          if (lg_cmp v71 x67.1.toInt64) = 0 then
          (
            f_L_law_1692 n f T x67.2 a1 a2 a3 i4
          )
          else
          (
            some (.inl (0 : Int32))
          )
        )
      )
      else
      (
        some (.inl (0 : Int32))
      )
    )
    else (
    if (v12 &&& (31 : Int32)) = (8 : Int32) then
    (
      (scr n f (i4 + (1 : Int32))).bind fun v73 =>
      (f_L_candidates T M a1 v73 a3).bind fun x74 =>
      (scr n f (i4 + (1 : Int32))).bind fun v75 =>
      (f_X9_candidates T x74.2 a2 v75).bind fun x76 =>
      (f_X9_thrown T x76.2 a2).bind fun x77 =>
      if x77 = x74.1 then
      (
        if ¬ x74.1 = 0 then
        (
          f_L_law_1692 n f T x76.2 a1 a2 a3 i4
        )
        else
        (
          (aldl T x76.2 a3 (0 : Int32)).bind fun v80 =>
          if (lg_cmp v80 x76.1.toInt64) = 0 then
          (
            f_L_law_1692 n f T x76.2 a1 a2 a3 i4
          )
          else
          (
            some (.inl (0 : Int32))
          )
        )
      )
      else
      (
        some (.inl (0 : Int32))
      )
    )
    else (
    if (v12 &&& (31 : Int32)) = (9 : Int32) then
    (
      (scr n f (i4 + (1 : Int32))).bind fun v82 =>
      (scr n f (i4 + (2 : Int32))).bind fun v83 =>
      (f_L_vote T M a1 v82 v83 a3).bind fun x84 =>
      (scr n f (i4 + (1 : Int32))).bind fun v85 =>
      (scr n f (i4 + (2 : Int32))).bind fun v86 =>
      (f_X9_vote T x84.2 a2 v85 v86).bind fun x87 =>
      (f_X9_thrown T x87.2 a2).bind fun x88 =>
      if x88 = x84.1 then
      (
        if ¬ x84.1 = 0 then
        (
          f_L_law_1692 n f T x87.2 a1 a2 a3 i4
        )
        else
        (
          (aldl T x87.2 a3 (0 : Int32)).bind fun v91 =>
          if (lg_cmp v91 x87.1.toInt64) = 0 then
          (
            f_L_law_1692 n f T x87.2 a1 a2 a3 i4
          )
          else
          (
            some (.inl (0 : Int32))
          )
        )
      )
      else
      (
        some (.inl (0 : Int32))
      )
    )
    else (
    if (v12 &&& (31 : Int32)) = (10 : Int32) then
    (
      (scr n f (i4 + (1 : Int32))).bind fun v93 =>
      (scr n f (i4 + (2 : Int32))).bind fun v94 =>
      (f_L_support T M a1 v93 v94 a3).bind fun x95 =>
      (scr n f (i4 + (1 : Int32))).bind fun v96 =>
      (scr n f (i4 + (2 : Int32))).bind fun v97 =>
      (f_X9_support T x95.2 a2 v96 v97).bind fun x98 =>
      (f_X9_thrown T x98.2 a2).bind fun x99 =>
      if x99 = x95.1 then
      (
        if ¬ x95.1 = 0 then
        (
          f_L_law_1692 n f T x98.2 a1 a2 a3 i4
        )
        else
        (
          (aldl T x98.2 a3 (0 : Int32)).bind fun v102 =>
          if (lg_cmp v102 x98.1.toInt64) = 0 then
          (
            f_L_law_1692 n f T x98.2 a1 a2 a3 i4
          )
          else
          (
            some (.inl (0 : Int32))
          )
        )
      )
      else
      (
        some (.inl (0 : Int32))
      )
    )
    else (
    if (v12 &&& (31 : Int32)) = (11 : Int32) then
    (
      (scr n f (i4 + (1 : Int32))).bind fun v104 =>
      (f_L_winner T M a1 v104 a3).bind fun x105 =>
      (scr n f (i4 + (1 : Int32))).bind fun v106 =>
      (f_X9_winner T x105.2 a2 v106).bind fun x107 =>
      (f_X9_thrown T x107.2 a2).bind fun x108 =>
      if x108 = x105.1 then
      (
        if ¬ x105.1 = 0 then
        (
          f_L_law_1692 n f T x107.2 a1 a2 a3 i4
        )
        else
        (
          (aldl T x107.2 a3 (0 : Int32)).bind fun v111 =>
          if (lg_cmp v111 x107.1.toInt64) = 0 then
          (
            f_L_law_1692 n f T x107.2 a1 a2 a3 i4
          )
          else
          (
            some (.inl (0 : Int32))
          )
        )
      )
      else
      (
        some (.inl (0 : Int32))
      )
    )
    else (
    if (v12 &&& (31 : Int32)) = (12 : Int32) then
    (
      (scr n f (i4 + (1 : Int32))).bind fun v113 =>
      (f_L_margin T M a1 v113 a3).bind fun x114 =>
      (scr n f (i4 + (1 : Int32))).bind fun v115 =>
      (f_X9_margin T x114.2 a2 v115).bind fun x116 =>
      (f_X9_thrown T x116.2 a2).bind fun x117 =>
      if x117 = x114.1 then
      (
        if ¬ x114.1 = 0 then
        (
          f_L_law_1692 n f T x116.2 a1 a2 a3 i4
        )
        else
        (
          (aldl T x116.2 a3 (0 : Int32)).bind fun v120 =>
          if (lg_cmp v120 x116.1.toInt64) = 0 then
          (
            f_L_law_1692 n f T x116.2 a1 a2 a3 i4
          )
          else
          (
            some (.inl (0 : Int32))
          )
        )
      )
      else
      (
        some (.inl (0 : Int32))
      )
    )
    else (
    if (v12 &&& (31 : Int32)) = (13 : Int32) then
    (
      (scr n f (i4 + (1 : Int32))).bind fun v122 =>
      (scr n f (i4 + (2 : Int32))).bind fun v123 =>
      (f_L_binding T M a1 v122 v123 a3).bind fun x124 =>
      (scr n f (i4 + (1 : Int32))).bind fun v125 =>
      (scr n f (i4 + (2 : Int32))).bind fun v126 =>
      (f_X9_binding T x124.2 a2 v125 v126).bind fun x127 =>
      (f_X9_thrown T x127.2 a2).bind fun x128 =>
      if x128 = x124.1 then
      (
        if ¬ x124.1 = 0 then
        (
          f_L_law_1692 n f T x127.2 a1 a2 a3 i4
        )
        else
        (
          (aldl T x127.2 a3 (0 : Int32)).bind fun v131 =>
          if (lg_cmp v131 x127.1.toInt64) = 0 then
          (
            f_L_law_1692 n f T x127.2 a1 a2 a3 i4
          )
          else
          (
            some (.inl (0 : Int32))
          )
        )
      )
      else
      (
        some (.inl (0 : Int32))
      )
    )
    else (
    if (v12 &&& (31 : Int32)) = (14 : Int32) then
    (
      (scr n f (i4 + (1 : Int32))).bind fun v133 =>
      (f_L_minority T M a1 v133 a3).bind fun x134 =>
      (scr n f (i4 + (1 : Int32))).bind fun v135 =>
      (f_X9_minority T x134.2 a2 v135).bind fun x136 =>
      (f_X9_thrown T x136.2 a2).bind fun x137 =>
      if x137 = x134.1 then
      (
        if ¬ x134.1 = 0 then
        (
          f_L_law_1692 n f T x136.2 a1 a2 a3 i4
        )
        else
        (
          (aldl T x136.2 a3 (0 : Int32)).bind fun v140 =>
          if (lg_cmp v140 x136.1.toInt64) = 0 then
          (
            f_L_law_1692 n f T x136.2 a1 a2 a3 i4
          )
          else
          (
            some (.inl (0 : Int32))
          )
        )
      )
      else
      (
        some (.inl (0 : Int32))
      )
    )
    else (
    if (v12 &&& (31 : Int32)) = (15 : Int32) then
    (
      (scr n f (i4 + (1 : Int32))).bind fun v142 =>
      (scr n f (i4 + (2 : Int32))).bind fun v143 =>
      (f_L_call T M a1 v142 v143 a3).bind fun x144 =>
      (scr n f (i4 + (1 : Int32))).bind fun v145 =>
      (scr n f (i4 + (2 : Int32))).bind fun v146 =>
      (f_X9_call T x144.2 a2 v145 v146).bind fun x147 =>
      (f_X9_thrown T x147.2 a2).bind fun x148 =>
      if x148 = x144.1 then
      (
        if ¬ x144.1 = 0 then
        (
          f_L_law_1692 n f T x147.2 a1 a2 a3 i4
        )
        else
        (
          (aldl T x147.2 a3 (0 : Int32)).bind fun v151 =>
          if (lg_cmp v151 x147.1.toInt64) = 0 then
          (
            f_L_law_1692 n f T x147.2 a1 a2 a3 i4
          )
          else
          (
            some (.inl (0 : Int32))
          )
        )
      )
      else
      (
        some (.inl (0 : Int32))
      )
    )
    else (
    if (v12 &&& (31 : Int32)) = (16 : Int32) then
    (
      (scr n f (i4 + (1 : Int32))).bind fun v153 =>
      (scr n f (i4 + (2 : Int32))).bind fun v154 =>
      (f_L_steps T M a1 v153 v154 a3).bind fun x155 =>
      (scr n f (i4 + (1 : Int32))).bind fun v156 =>
      (scr n f (i4 + (2 : Int32))).bind fun v157 =>
      (f_X9_steps T x155.2 a2 v156 v157).bind fun x158 =>
      (f_X9_thrown T x158.2 a2).bind fun x159 =>
      if x159 = x155.1 then
      (
        if ¬ x155.1 = 0 then
        (
          f_L_law_1692 n f T x158.2 a1 a2 a3 i4
        )
        else
        (
          (aldl T x158.2 a3 (0 : Int32)).bind fun v162 =>
          if (lg_cmp v162 x158.1.toInt64) = 0 then
          (
            f_L_law_1692 n f T x158.2 a1 a2 a3 i4
          )
          else
          (
            some (.inl (0 : Int32))
          )
        )
      )
      else
      (
        some (.inl (0 : Int32))
      )
    )
    else (
    if (v12 &&& (31 : Int32)) = (17 : Int32) then
    (
      (scr n f (i4 + (1 : Int32))).bind fun v164 =>
      (scr n f (i4 + (2 : Int32))).bind fun v165 =>
      (f_L_users T M a1 v164 v165 a3).bind fun x166 =>
      (scr n f (i4 + (1 : Int32))).bind fun v167 =>
      (scr n f (i4 + (2 : Int32))).bind fun v168 =>
      (f_X9_users T x166.2 a2 v167 v168).bind fun x169 =>
      (f_X9_thrown T x169.2 a2).bind fun x170 =>
      if x170 = x166.1 then
      (
        if ¬ x166.1 = 0 then
        (
          f_L_law_1692 n f T x169.2 a1 a2 a3 i4
        )
        else
        (
          (aldl T x169.2 a3 (0 : Int32)).bind fun v173 =>
          if (lg_cmp v173 x169.1.toInt64) = 0 then
          (
            f_L_law_1692 n f T x169.2 a1 a2 a3 i4
          )
          else
          (
            some (.inl (0 : Int32))
          )
        )
      )
      else
      (
        some (.inl (0 : Int32))
      )
    )
    else (
    if (v12 &&& (31 : Int32)) = (18 : Int32) then
    (
      (scr n f (i4 + (1 : Int32))).bind fun v175 =>
      (f_L_unload T M a1 v175 a3).bind fun x176 =>
      (scr n f (i4 + (1 : Int32))).bind fun v177 =>
      (f_X9_unload T x176.2 a2 v177).bind fun x178 =>
      (f_X9_thrown T x178.2 a2).bind fun x179 =>
      if x179 = x176.1 then
      (
        if ¬ x176.1 = 0 then
        (
          f_L_law_1692 n f T x178.2 a1 a2 a3 i4
        )
        else
        (
          (aldl T x178.2 a3 (0 : Int32)).bind fun v182 =>
          if (lg_cmp v182 x178.1.toInt64) = 0 then
          (
            f_L_law_1692 n f T x178.2 a1 a2 a3 i4
          )
          else
          (
            some (.inl (0 : Int32))
          )
        )
      )
      else
      (
        some (.inl (0 : Int32))
      )
    )
    else (
    if (v12 &&& (31 : Int32)) = (19 : Int32) then
    (
      (scr n f (i4 + (1 : Int32))).bind fun v184 =>
      (f_L_reload T M a1 v184 a3).bind fun x185 =>
      (scr n f (i4 + (1 : Int32))).bind fun v186 =>
      (f_X9_reload T x185.2 a2 v186).bind fun x187 =>
      (f_X9_thrown T x187.2 a2).bind fun x188 =>
      if x188 = x185.1 then
      (
        if ¬ x185.1 = 0 then
        (
          f_L_law_1692 n f T x187.2 a1 a2 a3 i4
        )
        else
        (
          (aldl T x187.2 a3 (0 : Int32)).bind fun v191 =>
          if (lg_cmp v191 x187.1.toInt64) = 0 then
          (
            f_L_law_1692 n f T x187.2 a1 a2 a3 i4
          )
          else
          (
            some (.inl (0 : Int32))
          )
        )
      )
      else
      (
        some (.inl (0 : Int32))
      )
    )
    else (
    if (v12 &&& (31 : Int32)) = (20 : Int32) then
    (
      (scr n f (i4 + (1 : Int32))).bind fun v193 =>
      (scr n f (i4 + (2 : Int32))).bind fun v194 =>
      (scr n f (i4 + (3 : Int32))).bind fun v195 =>
      (f_L_offerValue T M a1 v193 v194 v195 a3).bind fun x196 =>
      (scr n f (i4 + (1 : Int32))).bind fun v197 =>
      (scr n f (i4 + (2 : Int32))).bind fun v198 =>
      (scr n f (i4 + (3 : Int32))).bind fun v199 =>
      (f_X9_offerValue T x196.2 a2 v197 v198 v199).bind fun x200 =>
      (f_X9_thrown T x200.2 a2).bind fun x201 =>
      if x201 = x196.1 then
      (
        if ¬ x196.1 = 0 then
        (
          f_L_law_1692 n f T x200.2 a1 a2 a3 i4
        )
        else
        (
          (aldl T x200.2 a3 (0 : Int32)).bind fun v204 =>
          if (lg_cmp v204 x200.1.toInt64) = 0 then
          (
            f_L_law_1692 n f T x200.2 a1 a2 a3 i4
          )
          else
          (
            some (.inl (0 : Int32))
          )
        )
      )
      else
      (
        some (.inl (0 : Int32))
      )
    )
    else (
    if (v12 &&& (31 : Int32)) = (21 : Int32) then
    (
      (scr n f (i4 + (1 : Int32))).bind fun v206 =>
      (scr n f (i4 + (2 : Int32))).bind fun v207 =>
      (scr n f (i4 + (3 : Int32))).bind fun v208 =>
      (f_L_offerForward T M a1 v206 v207 v208 a3).bind fun x209 =>
      (scr n f (i4 + (1 : Int32))).bind fun v210 =>
      (scr n f (i4 + (2 : Int32))).bind fun v211 =>
      (scr n f (i4 + (3 : Int32))).bind fun v212 =>
      (f_X9_offerForward T x209.2 a2 v210 v211 v212).bind fun x213 =>
      (f_X9_thrown T x213.2 a2).bind fun x214 =>
      if x214 = x209.1 then
      (
        if ¬ x209.1 = 0 then
        (
          f_L_law_1692 n f T x213.2 a1 a2 a3 i4
        )
        else
        (
          (aldl T x213.2 a3 (0 : Int32)).bind fun v217 =>
          if (lg_cmp v217 x213.1.toInt64) = 0 then
          (
            f_L_law_1692 n f T x213.2 a1 a2 a3 i4
          )
          else
          (
            some (.inl (0 : Int32))
          )
        )
      )
      else
      (
        some (.inl (0 : Int32))
      )
    )
    else (
    if (v12 &&& (31 : Int32)) = (22 : Int32) then
    (
      (scr n f (i4 + (1 : Int32))).bind fun v219 =>
      (scr n f (i4 + (2 : Int32))).bind fun v220 =>
      (f_L_withdraw T M a1 v219 v220 a3).bind fun x221 =>
      (scr n f (i4 + (1 : Int32))).bind fun v222 =>
      (scr n f (i4 + (2 : Int32))).bind fun v223 =>
      (f_X9_withdraw T x221.2 a2 v222 v223).bind fun x224 =>
      (f_X9_thrown T x224.2 a2).bind fun x225 =>
      if x225 = x221.1 then
      (
        if ¬ x221.1 = 0 then
        (
          f_L_law_1692 n f T x224.2 a1 a2 a3 i4
        )
        else
        (
          (aldl T x224.2 a3 (0 : Int32)).bind fun v228 =>
          if (lg_cmp v228 x224.1.toInt64) = 0 then
          (
            f_L_law_1692 n f T x224.2 a1 a2 a3 i4
          )
          else
          (
            some (.inl (0 : Int32))
          )
        )
      )
      else
      (
        some (.inl (0 : Int32))
      )
    )
    else (
    if (v12 &&& (31 : Int32)) = (23 : Int32) then
    (
      (scr n f (i4 + (1 : Int32))).bind fun v230 =>
      (scr n f (i4 + (2 : Int32))).bind fun v231 =>
      (f_L_setTrust T M a1 v230 v231 a3).bind fun x232 =>
      (scr n f (i4 + (1 : Int32))).bind fun v233 =>
      (scr n f (i4 + (2 : Int32))).bind fun v234 =>
      (f_X9_setTrust T x232.2 a2 v233 v234).bind fun x235 =>
      (f_X9_thrown T x235.2 a2).bind fun x236 =>
      if x236 = x232.1 then
      (
        if ¬ x232.1 = 0 then
        (
          f_L_law_1692 n f T x235.2 a1 a2 a3 i4
        )
        else
        (
          (aldl T x235.2 a3 (0 : Int32)).bind fun v239 =>
          if (lg_cmp v239 x235.1.toInt64) = 0 then
          (
            f_L_law_1692 n f T x235.2 a1 a2 a3 i4
          )
          else
          (
            some (.inl (0 : Int32))
          )
        )
      )
      else
      (
        some (.inl (0 : Int32))
      )
    )
    else (
    if (v12 &&& (31 : Int32)) = (24 : Int32) then
    (
      (scr n f (i4 + (1 : Int32))).bind fun v241 =>
      (scr n f (i4 + (2 : Int32))).bind fun v242 =>
      if v242 = 0 then
      (
        f_L_law_1546 n f T M a1 a2 a3 i4 a1 v241 (0 : Int32)
      )
      else
      (
        f_L_law_1546 n f T M a1 a2 a3 i4 a1 v241 (1 : Int32)
      )
    )
    else (
    if (v12 &&& (31 : Int32)) = (25 : Int32) then
    (
      (scr n f (i4 + (1 : Int32))).bind fun v244 =>
      (f_L_setShare T M a1 v244 a3).bind fun x245 =>
      (scr n f (i4 + (1 : Int32))).bind fun v246 =>
      (f_X9_setShare T x245.2 a2 v246).bind fun x247 =>
      (f_X9_thrown T x247.2 a2).bind fun x248 =>
      if x248 = x245.1 then
      (
        if ¬ x245.1 = 0 then
        (
          f_L_law_1692 n f T x247.2 a1 a2 a3 i4
        )
        else
        (
          (aldl T x247.2 a3 (0 : Int32)).bind fun v251 =>
          if (lg_cmp v251 x247.1.toInt64) = 0 then
          (
            f_L_law_1692 n f T x247.2 a1 a2 a3 i4
          )
          else
          (
            some (.inl (0 : Int32))
          )
        )
      )
      else
      (
        some (.inl (0 : Int32))
      )
    )
    else (
    if (v12 &&& (31 : Int32)) = (26 : Int32) then
    (
      (f_X8_undo T M a1).bind fun x253 =>
      (f_X9_undo T x253.2 a2).bind fun x254 =>
      if x253.1 = x254.1 then
      (
        f_L_law_1692 n f T x254.2 a1 a2 a3 i4
      )
      else
      (
        some (.inl (0 : Int32))
      )
    )
    else (
    if (v12 &&& (31 : Int32)) = (27 : Int32) then
    (
      (f_X8_checksum T M a1).bind fun x256 =>
      (f_X9_checksum T x256.2 a2).bind fun x257 =>
      if (lg_cmp x256.1 x257.1) = 0 then
      (
        f_L_law_1692 n f T x257.2 a1 a2 a3 i4
      )
      else
      (
        some (.inl (0 : Int32))
      )
    )
    else (
      f_L_law_1692 n f T M a1 a2 a3 i4
    ))))))))))))))))))))))))))))
  )
def f_L_law (n : Nat) (f : Nat → Int32) (T : gT) (M : gM) : Option Int32 :=
  (gnew T M (8, 0)).bind fun x259 =>
  (f_X8_init x259.2.1 x259.2.2 x259.1).bind fun x260 =>
  (gnew x260.1 x260.2 (9, 0)).bind fun x262 =>
  (f_X9_init x262.2.1 x262.2.2 x262.1).bind fun x264 =>
  (gnew x264.1 x264.2 (12, 1)).bind fun x267 =>
  gloop (fun x => f_L_law_B23 n f x.2.1 x.2.2 x259.1 x262.1 x267.1 x.1) 513 ((0 : Int32), x267.2.1, x267.2.2)
