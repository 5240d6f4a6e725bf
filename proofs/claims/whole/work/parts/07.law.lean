def f_L_law_18 (n : Nat) (xs : Nat → Int32) : Nat → Int32 → SI → SL → SI → SL → Option (Int32 × SI × SL × SI × SL)
  | 0, _, _, _, _, _ => none
  | m_ + 1, v3, S, T, U, V =>
    if ((Int32.ofNat n) - (8 : Int32)) < v3 then
      some ((1 : Int32), S, T, U, V)
    else
      gd (inB v3 n) <|
      if ((xs (ix v3)) &&& (63 : Int32)) = (0 : Int32) then
        gd (inB (v3 + (1 : Int32)) n) <|
        gd (inB (v3 + (2 : Int32)) n) <|
        gd (inB (v3 + (3 : Int32)) n) <|
        gd (inB (v3 + (4 : Int32)) n) <|
        (f_X9_sock S (xs (ix (v3 + (1 : Int32)))) (xs (ix (v3 + (2 : Int32)))) (xs (ix (v3 + (3 : Int32)))) (xs (ix (v3 + (4 : Int32))))).bind fun q8 =>
        gd (inB (v3 + (1 : Int32)) n) <|
        gd (inB (v3 + (2 : Int32)) n) <|
        gd (inB (v3 + (3 : Int32)) n) <|
        gd (inB (v3 + (4 : Int32)) n) <|
        (f_X10_sock U (xs (ix (v3 + (1 : Int32)))) (xs (ix (v3 + (2 : Int32)))) (xs (ix (v3 + (3 : Int32)))) (xs (ix (v3 + (4 : Int32))))).bind fun q13 =>
        if q8.1 = q13.1 then
          (f_L_law_18 n xs m_) (v3 + (8 : Int32)) q8.2 T q13.2 V
        else
          some ((0 : Int32), q8.2, T, q13.2, V)
      else if ((xs (ix v3)) &&& (63 : Int32)) = (1 : Int32) then
        gd (inB (v3 + (1 : Int32)) n) <|
        gd (inB (v3 + (2 : Int32)) n) <|
        gd (inB (v3 + (3 : Int32)) n) <|
        (f_X9_type S ((((xs (ix (v3 + (1 : Int32)))).toInt64) <<< ((32 : Int32).toInt64 &&& 63)) ||| (((xs (ix (v3 + (2 : Int32)))).toInt64) &&& (4294967295 : Int64))) (xs (ix (v3 + (3 : Int32))))).bind fun q19 =>
        gd (inB (v3 + (1 : Int32)) n) <|
        gd (inB (v3 + (2 : Int32)) n) <|
        gd (inB (v3 + (3 : Int32)) n) <|
        (f_X10_type U ((((xs (ix (v3 + (1 : Int32)))).toInt64) <<< ((32 : Int32).toInt64 &&& 63)) ||| (((xs (ix (v3 + (2 : Int32)))).toInt64) &&& (4294967295 : Int64))) (xs (ix (v3 + (3 : Int32))))).bind fun q23 =>
        if q19.1 = q23.1 then
          (f_L_law_18 n xs m_) (v3 + (8 : Int32)) q19.2 T q23.2 V
        else
          some ((0 : Int32), q19.2, T, q23.2, V)
      else if ((xs (ix v3)) &&& (63 : Int32)) = (2 : Int32) then
        (f_X9_socks S).bind fun q26 =>
        (f_X10_socks U).bind fun q27 =>
        if q26.1 = q27.1 then
          (f_L_law_18 n xs m_) (v3 + (8 : Int32)) q26.2 T q27.2 V
        else
          some ((0 : Int32), q26.2, T, q27.2, V)
      else if ((xs (ix v3)) &&& (63 : Int32)) = (3 : Int32) then
        gd (inB (v3 + (1 : Int32)) n) <|
        gd (inB (v3 + (2 : Int32)) n) <|
        (f_X9_told S (xs (ix (v3 + (1 : Int32)))) (xs (ix (v3 + (2 : Int32))))).bind fun q32 =>
        gd (inB (v3 + (1 : Int32)) n) <|
        gd (inB (v3 + (2 : Int32)) n) <|
        (f_X10_told U (xs (ix (v3 + (1 : Int32)))) (xs (ix (v3 + (2 : Int32))))).bind fun q35 =>
        if q32 = q35 then
          (f_L_law_18 n xs m_) (v3 + (8 : Int32)) S T U V
        else
          some ((0 : Int32), S, T, U, V)
      else if ((xs (ix v3)) &&& (63 : Int32)) = (4 : Int32) then
        gd (inB (v3 + (1 : Int32)) n) <|
        gd (inB (v3 + (2 : Int32)) n) <|
        (f_X9_fade S (xs (ix (v3 + (1 : Int32)))) (xs (ix (v3 + (2 : Int32))))).bind fun q40 =>
        gd (inB (v3 + (1 : Int32)) n) <|
        gd (inB (v3 + (2 : Int32)) n) <|
        (f_X10_fade U (xs (ix (v3 + (1 : Int32)))) (xs (ix (v3 + (2 : Int32))))).bind fun q43 =>
        if q40.1 = q43.1 then
          (f_L_law_18 n xs m_) (v3 + (8 : Int32)) q40.2 T q43.2 V
        else
          some ((0 : Int32), q40.2, T, q43.2, V)
      else if ((xs (ix v3)) &&& (63 : Int32)) = (5 : Int32) then
        gd (inB (v3 + (1 : Int32)) n) <|
        gd (inB (v3 + (2 : Int32)) n) <|
        (f_X9_set S (xs (ix (v3 + (1 : Int32)))) (xs (ix (v3 + (2 : Int32))))).bind fun q48 =>
        gd (inB (v3 + (1 : Int32)) n) <|
        gd (inB (v3 + (2 : Int32)) n) <|
        (f_X10_set U (xs (ix (v3 + (1 : Int32)))) (xs (ix (v3 + (2 : Int32))))).bind fun q51 =>
        if q48.1 = q51.1 then
          (f_L_law_18 n xs m_) (v3 + (8 : Int32)) q48.2 T q51.2 V
        else
          some ((0 : Int32), q48.2, T, q51.2, V)
      else if ((xs (ix v3)) &&& (63 : Int32)) = (6 : Int32) then
        gd (inB (v3 + (1 : Int32)) n) <|
        gd (inB (v3 + (2 : Int32)) n) <|
        (f_X9_monday S (xs (ix (v3 + (1 : Int32)))) (xs (ix (v3 + (2 : Int32))))).bind fun q56 =>
        gd (inB (v3 + (1 : Int32)) n) <|
        gd (inB (v3 + (2 : Int32)) n) <|
        (f_X10_monday U (xs (ix (v3 + (1 : Int32)))) (xs (ix (v3 + (2 : Int32))))).bind fun q59 =>
        if q56.1 = q59.1 then
          (f_L_law_18 n xs m_) (v3 + (8 : Int32)) q56.2 T q59.2 V
        else
          some ((0 : Int32), q56.2, T, q59.2, V)
      else if ((xs (ix v3)) &&& (63 : Int32)) = (7 : Int32) then
        gd (inB (v3 + (1 : Int32)) n) <|
        (f_X9_found S (xs (ix (v3 + (1 : Int32))))).bind fun q63 =>
        gd (inB (v3 + (1 : Int32)) n) <|
        (f_X10_found U (xs (ix (v3 + (1 : Int32))))).bind fun q65 =>
        if q63.1 = q65.1 then
          (f_L_law_18 n xs m_) (v3 + (8 : Int32)) q63.2 T q65.2 V
        else
          some ((0 : Int32), q63.2, T, q65.2, V)
      else if ((xs (ix v3)) &&& (63 : Int32)) = (8 : Int32) then
        gd (inB (v3 + (1 : Int32)) n) <|
        gd (inB (v3 + (2 : Int32)) n) <|
        (f_X9_alike S (xs (ix (v3 + (1 : Int32)))) (xs (ix (v3 + (2 : Int32))))).bind fun q70 =>
        gd (inB (v3 + (1 : Int32)) n) <|
        gd (inB (v3 + (2 : Int32)) n) <|
        (f_X10_alike U (xs (ix (v3 + (1 : Int32)))) (xs (ix (v3 + (2 : Int32))))).bind fun q73 =>
        if q70 = q73 then
          (f_L_law_18 n xs m_) (v3 + (8 : Int32)) S T U V
        else
          some ((0 : Int32), S, T, U, V)
      else if ((xs (ix v3)) &&& (63 : Int32)) = (9 : Int32) then
        gd (inB (v3 + (1 : Int32)) n) <|
        gd (inB (v3 + (2 : Int32)) n) <|
        (f_X9_fellows S (xs (ix (v3 + (1 : Int32)))) (xs (ix (v3 + (2 : Int32))))).bind fun q78 =>
        gd (inB (v3 + (1 : Int32)) n) <|
        gd (inB (v3 + (2 : Int32)) n) <|
        (f_X10_fellows U (xs (ix (v3 + (1 : Int32)))) (xs (ix (v3 + (2 : Int32))))).bind fun q81 =>
        if q78 = q81 then
          (f_L_law_18 n xs m_) (v3 + (8 : Int32)) S T U V
        else
          some ((0 : Int32), S, T, U, V)
      else if ((xs (ix v3)) &&& (63 : Int32)) = (10 : Int32) then
        gd (inB (v3 + (1 : Int32)) n) <|
        (f_X9_count S (xs (ix (v3 + (1 : Int32))))).bind fun q85 =>
        gd (inB (v3 + (1 : Int32)) n) <|
        (f_X10_count U (xs (ix (v3 + (1 : Int32))))).bind fun q87 =>
        if q85 = q87 then
          (f_L_law_18 n xs m_) (v3 + (8 : Int32)) S T U V
        else
          some ((0 : Int32), S, T, U, V)
      else if ((xs (ix v3)) &&& (63 : Int32)) = (11 : Int32) then
        gd (inB (v3 + (1 : Int32)) n) <|
        (f_X9_pairs S (xs (ix (v3 + (1 : Int32))))).bind fun q91 =>
        gd (inB (v3 + (1 : Int32)) n) <|
        (f_X10_pairs U (xs (ix (v3 + (1 : Int32))))).bind fun q93 =>
        if q91.1 = q93.1 then
          (f_L_law_18 n xs m_) (v3 + (8 : Int32)) q91.2 T q93.2 V
        else
          some ((0 : Int32), q91.2, T, q93.2, V)
      else if ((xs (ix v3)) &&& (63 : Int32)) = (12 : Int32) then
        gd (inB (v3 + (1 : Int32)) n) <|
        (f_X9_fellow S (xs (ix (v3 + (1 : Int32))))).bind fun q97 =>
        gd (inB (v3 + (1 : Int32)) n) <|
        (f_X10_fellow U (xs (ix (v3 + (1 : Int32))))).bind fun q99 =>
        if q97.1 = q99.1 then
          (f_L_law_18 n xs m_) (v3 + (8 : Int32)) q97.2 T q99.2 V
        else
          some ((0 : Int32), q97.2, T, q99.2, V)
      else if ((xs (ix v3)) &&& (63 : Int32)) = (13 : Int32) then
        (f_X9_pairUp S).bind fun q102 =>
        (f_X10_pairUp U).bind fun q103 =>
        if q102.1 = q103.1 then
          (f_L_law_18 n xs m_) (v3 + (8 : Int32)) q102.2 T q103.2 V
        else
          some ((0 : Int32), q102.2, T, q103.2, V)
      else if ((xs (ix v3)) &&& (63 : Int32)) = (14 : Int32) then
        gd (inB (v3 + (1 : Int32)) n) <|
        (f_X9_part S (xs (ix (v3 + (1 : Int32))))).bind fun q107 =>
        gd (inB (v3 + (1 : Int32)) n) <|
        (f_X10_part U (xs (ix (v3 + (1 : Int32))))).bind fun q109 =>
        if q107.1 = q109.1 then
          (f_L_law_18 n xs m_) (v3 + (8 : Int32)) q107.2 T q109.2 V
        else
          some ((0 : Int32), q107.2, T, q109.2, V)
      else if ((xs (ix v3)) &&& (63 : Int32)) = (15 : Int32) then
        gd (inB (v3 + (1 : Int32)) n) <|
        gd (inB (v3 + (2 : Int32)) n) <|
        gd (inB (v3 + (3 : Int32)) n) <|
        (f_X9_judge S (xs (ix (v3 + (1 : Int32)))) (xs (ix (v3 + (2 : Int32)))) (xs (ix (v3 + (3 : Int32))))).bind fun q115 =>
        gd (inB (v3 + (1 : Int32)) n) <|
        gd (inB (v3 + (2 : Int32)) n) <|
        gd (inB (v3 + (3 : Int32)) n) <|
        (f_X10_judge U (xs (ix (v3 + (1 : Int32)))) (xs (ix (v3 + (2 : Int32)))) (xs (ix (v3 + (3 : Int32))))).bind fun q119 =>
        if q115 = q119 then
          (f_L_law_18 n xs m_) (v3 + (8 : Int32)) S T U V
        else
          some ((0 : Int32), S, T, U, V)
      else if ((xs (ix v3)) &&& (63 : Int32)) = (16 : Int32) then
        gd (inB (v3 + (1 : Int32)) n) <|
        gd (inB (v3 + (2 : Int32)) n) <|
        gd (inB (v3 + (3 : Int32)) n) <|
        gd (inB (v3 + (4 : Int32)) n) <|
        gd (inB (v3 + (5 : Int32)) n) <|
        gd (inB (v3 + (6 : Int32)) n) <|
        (f_X9_thrown S T (xs (ix (v3 + (1 : Int32)))) (xs (ix (v3 + (2 : Int32)))) (xs (ix (v3 + (3 : Int32)))) (xs (ix (v3 + (4 : Int32)))) (xs (ix (v3 + (5 : Int32)))) (xs (ix (v3 + (6 : Int32))))).bind fun q128 =>
        gd (inB (v3 + (1 : Int32)) n) <|
        gd (inB (v3 + (2 : Int32)) n) <|
        gd (inB (v3 + (3 : Int32)) n) <|
        gd (inB (v3 + (4 : Int32)) n) <|
        gd (inB (v3 + (5 : Int32)) n) <|
        gd (inB (v3 + (6 : Int32)) n) <|
        (f_X10_thrown U V (xs (ix (v3 + (1 : Int32)))) (xs (ix (v3 + (2 : Int32)))) (xs (ix (v3 + (3 : Int32)))) (xs (ix (v3 + (4 : Int32)))) (xs (ix (v3 + (5 : Int32)))) (xs (ix (v3 + (6 : Int32))))).bind fun q135 =>
        if q128.1 = q135.1 then
          (f_L_law_18 n xs m_) (v3 + (8 : Int32)) q128.2.1 q128.2.2 U q135.2
        else
          some ((0 : Int32), q128.2.1, q128.2.2, U, q135.2)
      else if ((xs (ix v3)) &&& (63 : Int32)) = (17 : Int32) then
        gd (inB (v3 + (1 : Int32)) n) <|
        gd (inB (v3 + (2 : Int32)) n) <|
        gd (inB (v3 + (3 : Int32)) n) <|
        gd (inB (v3 + (4 : Int32)) n) <|
        gd (inB (v3 + (5 : Int32)) n) <|
        gd (inB (v3 + (6 : Int32)) n) <|
        gd (inB (v3 + (7 : Int32)) n) <|
        (f_X9_worth S T (xs (ix (v3 + (1 : Int32)))) (xs (ix (v3 + (2 : Int32)))) (xs (ix (v3 + (3 : Int32)))) (xs (ix (v3 + (4 : Int32)))) (xs (ix (v3 + (5 : Int32)))) (xs (ix (v3 + (6 : Int32)))) (xs (ix (v3 + (7 : Int32))))).bind fun q145 =>
        gd (inB (v3 + (1 : Int32)) n) <|
        gd (inB (v3 + (2 : Int32)) n) <|
        gd (inB (v3 + (3 : Int32)) n) <|
        gd (inB (v3 + (4 : Int32)) n) <|
        gd (inB (v3 + (5 : Int32)) n) <|
        gd (inB (v3 + (6 : Int32)) n) <|
        gd (inB (v3 + (7 : Int32)) n) <|
        (f_X10_worth U V (xs (ix (v3 + (1 : Int32)))) (xs (ix (v3 + (2 : Int32)))) (xs (ix (v3 + (3 : Int32)))) (xs (ix (v3 + (4 : Int32)))) (xs (ix (v3 + (5 : Int32)))) (xs (ix (v3 + (6 : Int32)))) (xs (ix (v3 + (7 : Int32))))).bind fun q153 =>
        if q145.1 = q153.1 then
          (f_L_law_18 n xs m_) (v3 + (8 : Int32)) q145.2.1 q145.2.2 U q153.2
        else
          some ((0 : Int32), q145.2.1, q145.2.2, U, q153.2)
      else if ((xs (ix v3)) &&& (63 : Int32)) = (18 : Int32) then
        (f_X9_worst S T).bind fun q156 =>
        (f_X10_worst U).bind fun q157 =>
        if q156.1 = q157 then
          (f_L_law_18 n xs m_) (v3 + (8 : Int32)) q156.2.1 q156.2.2 U V
        else
          some ((0 : Int32), q156.2.1, q156.2.2, U, V)
      else if ((xs (ix v3)) &&& (63 : Int32)) = (19 : Int32) then
        gd (inB (v3 + (1 : Int32)) n) <|
        gd (inB (v3 + (2 : Int32)) n) <|
        (f_X9_odds S T (xs (ix (v3 + (1 : Int32)))) (xs (ix (v3 + (2 : Int32))))).bind fun q162 =>
        gd (inB (v3 + (1 : Int32)) n) <|
        gd (inB (v3 + (2 : Int32)) n) <|
        (f_X10_odds U (xs (ix (v3 + (1 : Int32)))) (xs (ix (v3 + (2 : Int32))))).bind fun q165 =>
        if q162.1 = q165.1 then
          (f_L_law_18 n xs m_) (v3 + (8 : Int32)) q162.2.1 q162.2.2 q165.2 V
        else
          some ((0 : Int32), q162.2.1, q162.2.2, q165.2, V)
      else if ((xs (ix v3)) &&& (63 : Int32)) = (20 : Int32) then
        gd (inB (v3 + (1 : Int32)) n) <|
        gd (inB (v3 + (2 : Int32)) n) <|
        gd (inB (v3 + (3 : Int32)) n) <|
        gd (inB (v3 + (4 : Int32)) n) <|
        (f_X9_owns S (xs (ix (v3 + (1 : Int32)))) (xs (ix (v3 + (2 : Int32)))) (xs (ix (v3 + (3 : Int32)))) (xs (ix (v3 + (4 : Int32))))).bind fun q172 =>
        gd (inB (v3 + (1 : Int32)) n) <|
        gd (inB (v3 + (2 : Int32)) n) <|
        gd (inB (v3 + (3 : Int32)) n) <|
        gd (inB (v3 + (4 : Int32)) n) <|
        (f_X10_owns U (xs (ix (v3 + (1 : Int32)))) (xs (ix (v3 + (2 : Int32)))) (xs (ix (v3 + (3 : Int32)))) (xs (ix (v3 + (4 : Int32))))).bind fun q177 =>
        if q172.1 = q177.1 then
          (f_L_law_18 n xs m_) (v3 + (8 : Int32)) q172.2 T q177.2 V
        else
          some ((0 : Int32), q172.2, T, q177.2, V)
      else if ((xs (ix v3)) &&& (63 : Int32)) = (21 : Int32) then
        gd (inB (v3 + (1 : Int32)) n) <|
        gd (inB (v3 + (2 : Int32)) n) <|
        (f_X9_may S (xs (ix (v3 + (1 : Int32)))) (xs (ix (v3 + (2 : Int32))))).bind fun q182 =>
        gd (inB (v3 + (1 : Int32)) n) <|
        gd (inB (v3 + (2 : Int32)) n) <|
        (f_X10_may U (xs (ix (v3 + (1 : Int32)))) (xs (ix (v3 + (2 : Int32))))).bind fun q185 =>
        if q182.1 = q185.1 then
          (f_L_law_18 n xs m_) (v3 + (8 : Int32)) q182.2 T q185.2 V
        else
          some ((0 : Int32), q182.2, T, q185.2, V)
      else if ((xs (ix v3)) &&& (63 : Int32)) = (22 : Int32) then
        gd (inB (v3 + (1 : Int32)) n) <|
        gd (inB (v3 + (2 : Int32)) n) <|
        (f_X9_bind S (xs (ix (v3 + (1 : Int32)))) (xs (ix (v3 + (2 : Int32))))).bind fun q190 =>
        gd (inB (v3 + (1 : Int32)) n) <|
        gd (inB (v3 + (2 : Int32)) n) <|
        (f_X10_bind U (xs (ix (v3 + (1 : Int32)))) (xs (ix (v3 + (2 : Int32))))).bind fun q193 =>
        if q190.1 = q193.1 then
          (f_L_law_18 n xs m_) (v3 + (8 : Int32)) q190.2 T q193.2 V
        else
          some ((0 : Int32), q190.2, T, q193.2, V)
      else if ((xs (ix v3)) &&& (63 : Int32)) = (23 : Int32) then
        (f_X9_ways S T).bind fun q196 =>
        (f_X10_ways U V).bind fun q197 =>
        if q196.1 = q197.1 then
          (f_L_law_18 n xs m_) (v3 + (8 : Int32)) S q196.2 U q197.2
        else
          some ((0 : Int32), S, q196.2, U, q197.2)
      else if ((xs (ix v3)) &&& (63 : Int32)) = (24 : Int32) then
        gd (inB (v3 + (1 : Int32)) n) <|
        (f_X9_whose S T (xs (ix (v3 + (1 : Int32))))).bind fun q201 =>
        gd (inB (v3 + (1 : Int32)) n) <|
        (f_X10_whose U V (xs (ix (v3 + (1 : Int32))))).bind fun q203 =>
        if q201.1 = q203.1 then
          (f_L_law_18 n xs m_) (v3 + (8 : Int32)) S q201.2 U q203.2
        else
          some ((0 : Int32), S, q201.2, U, q203.2)
      else if ((xs (ix v3)) &&& (63 : Int32)) = (25 : Int32) then
        gd (inB (v3 + (1 : Int32)) n) <|
        (f_X9_seldom S (xs (ix (v3 + (1 : Int32))))).bind fun q207 =>
        gd (inB (v3 + (1 : Int32)) n) <|
        (f_X10_seldom U (xs (ix (v3 + (1 : Int32))))).bind fun q209 =>
        if q207 = q209 then
          (f_L_law_18 n xs m_) (v3 + (8 : Int32)) S T U V
        else
          some ((0 : Int32), S, T, U, V)
      else if ((xs (ix v3)) &&& (63 : Int32)) = (26 : Int32) then
        gd (inB (v3 + (1 : Int32)) n) <|
        gd (inB (v3 + (2 : Int32)) n) <|
        (f_X9_lacks S (xs (ix (v3 + (1 : Int32)))) (xs (ix (v3 + (2 : Int32))))).bind fun q214 =>
        gd (inB (v3 + (1 : Int32)) n) <|
        gd (inB (v3 + (2 : Int32)) n) <|
        (f_X10_lacks U (xs (ix (v3 + (1 : Int32)))) (xs (ix (v3 + (2 : Int32))))).bind fun q217 =>
        if q214 = q217 then
          (f_L_law_18 n xs m_) (v3 + (8 : Int32)) S T U V
        else
          some ((0 : Int32), S, T, U, V)
      else if ((xs (ix v3)) &&& (63 : Int32)) = (27 : Int32) then
        gd (inB (v3 + (1 : Int32)) n) <|
        gd (inB (v3 + (2 : Int32)) n) <|
        (f_X9_wish S (xs (ix (v3 + (1 : Int32)))) (xs (ix (v3 + (2 : Int32))))).bind fun q222 =>
        gd (inB (v3 + (1 : Int32)) n) <|
        gd (inB (v3 + (2 : Int32)) n) <|
        (f_X10_wish U (xs (ix (v3 + (1 : Int32)))) (xs (ix (v3 + (2 : Int32))))).bind fun q225 =>
        if q222.1 = q225.1 then
          (f_L_law_18 n xs m_) (v3 + (8 : Int32)) q222.2 T q225.2 V
        else
          some ((0 : Int32), q222.2, T, q225.2, V)
      else if ((xs (ix v3)) &&& (63 : Int32)) = (28 : Int32) then
        (f_X9_buy S).bind fun q228 =>
        (f_X10_buy U).bind fun q229 =>
        if q228 = q229 then
          (f_L_law_18 n xs m_) (v3 + (8 : Int32)) S T U V
        else
          some ((0 : Int32), S, T, U, V)
      else if ((xs (ix v3)) &&& (63 : Int32)) = (29 : Int32) then
        gd (inB (v3 + (1 : Int32)) n) <|
        gd (inB (v3 + (2 : Int32)) n) <|
        gd (inB (v3 + (3 : Int32)) n) <|
        (f_X9_marks S T (xs (ix (v3 + (1 : Int32)))) (xs (ix (v3 + (2 : Int32)))) (xs (ix (v3 + (3 : Int32))))).bind fun q235 =>
        gd (inB (v3 + (1 : Int32)) n) <|
        gd (inB (v3 + (2 : Int32)) n) <|
        gd (inB (v3 + (3 : Int32)) n) <|
        (f_X10_marks U (xs (ix (v3 + (1 : Int32)))) (xs (ix (v3 + (2 : Int32)))) (xs (ix (v3 + (3 : Int32))))).bind fun q239 =>
        if q235.1 = q239.1 then
          (f_L_law_18 n xs m_) (v3 + (8 : Int32)) q235.2.1 q235.2.2 q239.2 V
        else
          some ((0 : Int32), q235.2.1, q235.2.2, q239.2, V)
      else if ((xs (ix v3)) &&& (63 : Int32)) = (30 : Int32) then
        (f_X9_image S).bind fun q242 =>
        (f_X10_image U).bind fun q243 =>
        if q242.1 = q243.1 then
          (f_L_law_18 n xs m_) (v3 + (8 : Int32)) q242.2 T q243.2 V
        else
          some ((0 : Int32), q242.2, T, q243.2, V)
      else if ((xs (ix v3)) &&& (63 : Int32)) = (31 : Int32) then
        (f_X9_restore S).bind fun q246 =>
        (f_X10_restore U).bind fun q247 =>
        if q246.1 = q247.1 then
          (f_L_law_18 n xs m_) (v3 + (8 : Int32)) q246.2 T q247.2 V
        else
          some ((0 : Int32), q246.2, T, q247.2, V)
      else if ((xs (ix v3)) &&& (63 : Int32)) = (32 : Int32) then
        gd (inB (v3 + (1 : Int32)) n) <|
        gd (inB (v3 + (2 : Int32)) n) <|
        gd (inB (v3 + (3 : Int32)) n) <|
        (f_X9_sheet S (xs (ix (v3 + (1 : Int32)))) (xs (ix (v3 + (2 : Int32)))) (xs (ix (v3 + (3 : Int32))))).bind fun q253 =>
        gd (inB (v3 + (1 : Int32)) n) <|
        gd (inB (v3 + (2 : Int32)) n) <|
        gd (inB (v3 + (3 : Int32)) n) <|
        (f_X10_sheet U (xs (ix (v3 + (1 : Int32)))) (xs (ix (v3 + (2 : Int32)))) (xs (ix (v3 + (3 : Int32))))).bind fun q257 =>
        if q253.1 = q257.1 then
          (f_L_law_18 n xs m_) (v3 + (8 : Int32)) q253.2 T q257.2 V
        else
          some ((0 : Int32), q253.2, T, q257.2, V)
      else if ((xs (ix v3)) &&& (63 : Int32)) = (33 : Int32) then
        gd (inB (v3 + (1 : Int32)) n) <|
        (f_X9_drop S (xs (ix (v3 + (1 : Int32))))).bind fun q261 =>
        gd (inB (v3 + (1 : Int32)) n) <|
        (f_X10_drop U (xs (ix (v3 + (1 : Int32))))).bind fun q263 =>
        if q261.1 = q263.1 then
          (f_L_law_18 n xs m_) (v3 + (8 : Int32)) q261.2 T q263.2 V
        else
          some ((0 : Int32), q261.2, T, q263.2, V)
      else if ((xs (ix v3)) &&& (63 : Int32)) = (34 : Int32) then
        gd (inB (v3 + (1 : Int32)) n) <|
        gd (inB (v3 + (2 : Int32)) n) <|
        gd (inB (v3 + (3 : Int32)) n) <|
        gd (inB (v3 + (4 : Int32)) n) <|
        (f_X9_item S (xs (ix (v3 + (1 : Int32)))) (xs (ix (v3 + (2 : Int32)))) (xs (ix (v3 + (3 : Int32)))) (xs (ix (v3 + (4 : Int32))))).bind fun q270 =>
        gd (inB (v3 + (1 : Int32)) n) <|
        gd (inB (v3 + (2 : Int32)) n) <|
        gd (inB (v3 + (3 : Int32)) n) <|
        gd (inB (v3 + (4 : Int32)) n) <|
        (f_X10_item U (xs (ix (v3 + (1 : Int32)))) (xs (ix (v3 + (2 : Int32)))) (xs (ix (v3 + (3 : Int32)))) (xs (ix (v3 + (4 : Int32))))).bind fun q275 =>
        if q270.1 = q275.1 then
          (f_L_law_18 n xs m_) (v3 + (8 : Int32)) q270.2 T q275.2 V
        else
          some ((0 : Int32), q270.2, T, q275.2, V)
      else (f_L_law_18 n xs m_) (v3 + (8 : Int32)) S T U V
set_option maxHeartbeats 4000000 in
set_option maxRecDepth 100000 in
theorem t_L_law_18 (n : Nat) (xs : Nat → Int32) : ∀ (m_ : Nat) (v3 : Int32) (S : SI) (T : SL) (U : SI) (V : SL), Run 47 yL_law cL_law 4 (some .boolean) (some (n, xs)) (fun a : Int32 × SI × SL × SI × SL => (some (.int a.1), (a.2.1, a.2.2.1, a.2.2.2.1, a.2.2.2.2))) 18 [(0, .ref 1000), (1, .ref 0), (2, .ref 78), (3, .int v3)] [] (S, T, U, V) (f_L_law_18 n xs m_ v3 S T U V) := by
  intro m_
  induction m_ with
  | zero =>
    intro v3 S T U V
    rw [f_L_law_18]
    exact r_none
  | succ m_ ih =>
    intro v3 S T U V
    rw [f_L_law_18]
    refine r_iload_n dL_law_18 3 rfl rfl ?_
    refine r_aload_n dL_law_19 0 rfl rfl ?_
    refine r_slen rfl dL_law_20 ?_
    refine r_bipush (v := (8 : Int32)) dL_law_21 rfl ?_
    refine r_isub dL_law_23 ?_
    refine r_icmp_gt (tgt := 1347) dL_law_24 (by decide) (fun h1 => ?_) (fun h1 => ?_)
    · refine r_iconst (v := (1 : Int32)) dL_law_1347 rfl ?_
      exact r_ireturn (ty := .boolean) dL_law_1348 rfl rfl rfl
    · refine r_aload_n dL_law_27 0 rfl rfl ?_
      refine r_iload_n dL_law_28 3 rfl rfl ?_
      refine r_sld rfl dL_law_29 (fun h2 => ?_)
      refine r_bipush (v := (63 : Int32)) dL_law_30 rfl ?_
      refine r_iand dL_law_32 ?_
      refine r_if (fun h3 => ?_) (fun h3 => ?_)
      · refine r_tableIn (off := 155) (tgt := 188) dL_law_33 0 h3 (by decide) (by decide) (by decide) (by decide) ?_
        refine r_aload_n dL_law_188 1 rfl rfl ?_
        refine r_aload_n dL_law_189 0 rfl rfl ?_
        refine r_iload_n dL_law_190 3 rfl rfl ?_
        refine r_iconst (v := (1 : Int32)) dL_law_191 rfl ?_
        refine r_iadd dL_law_192 ?_
        refine r_sld rfl dL_law_193 (fun h4 => ?_)
        refine r_aload_n dL_law_194 0 rfl rfl ?_
        refine r_iload_n dL_law_195 3 rfl rfl ?_
        refine r_iconst (v := (2 : Int32)) dL_law_196 rfl ?_
        refine r_iadd dL_law_197 ?_
        refine r_sld rfl dL_law_198 (fun h5 => ?_)
        refine r_aload_n dL_law_199 0 rfl rfl ?_
        refine r_iload_n dL_law_200 3 rfl rfl ?_
        refine r_iconst (v := (3 : Int32)) dL_law_201 rfl ?_
        refine r_iadd dL_law_202 ?_
        refine r_sld rfl dL_law_203 (fun h6 => ?_)
        refine r_aload_n dL_law_204 0 rfl rfl ?_
        refine r_iload_n dL_law_205 3 rfl rfl ?_
        refine r_iconst (v := (4 : Int32)) dL_law_206 rfl ?_
        refine r_iadd dL_law_207 ?_
        refine r_sld rfl dL_law_208 (fun h7 => ?_)
        refine rVc_iS (as := [.int (xs (ix (v3 + (1 : Int32)))), .int (xs (ix (v3 + (2 : Int32)))), .int (xs (ix (v3 + (3 : Int32)))), .int (xs (ix (v3 + (4 : Int32))))]) (st := []) dL_law_209 cl_L_13 (by decide) rfl rfl (m_X9_sock S T U V (xs (ix (v3 + (1 : Int32)))) (xs (ix (v3 + (2 : Int32)))) (xs (ix (v3 + (3 : Int32)))) (xs (ix (v3 + (4 : Int32))))) (by decide) rfl (Nat.le_of_ble_eq_true rfl) (fun q8 _ => ?_)
        refine r_aload_n dL_law_212 2 rfl rfl ?_
        refine r_aload_n dL_law_213 0 rfl rfl ?_
        refine r_iload_n dL_law_214 3 rfl rfl ?_
        refine r_iconst (v := (1 : Int32)) dL_law_215 rfl ?_
        refine r_iadd dL_law_216 ?_
        refine r_sld rfl dL_law_217 (fun h9 => ?_)
        refine r_aload_n dL_law_218 0 rfl rfl ?_
        refine r_iload_n dL_law_219 3 rfl rfl ?_
        refine r_iconst (v := (2 : Int32)) dL_law_220 rfl ?_
        refine r_iadd dL_law_221 ?_
        refine r_sld rfl dL_law_222 (fun h10 => ?_)
        refine r_aload_n dL_law_223 0 rfl rfl ?_
        refine r_iload_n dL_law_224 3 rfl rfl ?_
        refine r_iconst (v := (3 : Int32)) dL_law_225 rfl ?_
        refine r_iadd dL_law_226 ?_
        refine r_sld rfl dL_law_227 (fun h11 => ?_)
        refine r_aload_n dL_law_228 0 rfl rfl ?_
        refine r_iload_n dL_law_229 3 rfl rfl ?_
        refine r_iconst (v := (4 : Int32)) dL_law_230 rfl ?_
        refine r_iadd dL_law_231 ?_
        refine r_sld rfl dL_law_232 (fun h12 => ?_)
        refine rVm_iS (as := [.int (xs (ix (v3 + (1 : Int32)))), .int (xs (ix (v3 + (2 : Int32)))), .int (xs (ix (v3 + (3 : Int32)))), .int (xs (ix (v3 + (4 : Int32))))]) (st := [.int q8.1]) dL_law_233 cl_L_17 (by decide) rfl rfl (m_X10_sock q8.2 T U V (xs (ix (v3 + (1 : Int32)))) (xs (ix (v3 + (2 : Int32)))) (xs (ix (v3 + (3 : Int32)))) (xs (ix (v3 + (4 : Int32))))) (by decide) rfl (Nat.le_of_ble_eq_true rfl) (fun q13 _ => ?_)
        refine r_icmp_eq (tgt := 1341) dL_law_236 (by decide) (fun h14 => ?_) (fun h14 => ?_)
        · refine r_iinc (v := v3 + (8 : Int32)) (L' := [(3, .int (v3 + (8 : Int32))), (0, .ref 1000), (1, .ref 0), (2, .ref 78)]) dL_law_1341 3 rfl rfl (by decide) rfl ?_
          refine r_goto (tgt := 18) dL_law_1344 (by decide) ?_
          exact r_pick [1, 2, 3, 0] rfl (ih (v3 + (8 : Int32)) q8.2 T q13.2 V)
        · refine r_iconst (v := (0 : Int32)) dL_law_239 rfl ?_
          exact r_ireturn (ty := .boolean) dL_law_240 rfl rfl rfl
      · skip
        refine r_if (fun h15 => ?_) (fun h15 => ?_)
        · refine r_tableIn (off := 208) (tgt := 241) dL_law_33 1 h15 (by decide) (by decide) (by decide) (by decide) ?_
          refine r_aload_n dL_law_241 1 rfl rfl ?_
          refine r_aload_n dL_law_242 0 rfl rfl ?_
          refine r_iload_n dL_law_243 3 rfl rfl ?_
          refine r_iconst (v := (1 : Int32)) dL_law_244 rfl ?_
          refine r_iadd dL_law_245 ?_
          refine r_sld rfl dL_law_246 (fun h16 => ?_)
          refine r_i2l dL_law_247 ?_
          refine r_bipush (v := (32 : Int32)) dL_law_248 rfl ?_
          refine r_lshl dL_law_250 ?_
          refine r_aload_n dL_law_251 0 rfl rfl ?_
          refine r_iload_n dL_law_252 3 rfl rfl ?_
          refine r_iconst (v := (2 : Int32)) dL_law_253 rfl ?_
          refine r_iadd dL_law_254 ?_
          refine r_sld rfl dL_law_255 (fun h17 => ?_)
          refine r_i2l dL_law_256 ?_
          refine r_ldc2_w (v := (4294967295 : Int64)) dL_law_257 kw_L_18 ?_
          refine r_land dL_law_260 ?_
          refine r_lor dL_law_261 ?_
          refine r_aload_n dL_law_262 0 rfl rfl ?_
          refine r_iload_n dL_law_263 3 rfl rfl ?_
          refine r_iconst (v := (3 : Int32)) dL_law_264 rfl ?_
          refine r_iadd dL_law_265 ?_
          refine r_sld rfl dL_law_266 (fun h18 => ?_)
          refine rVc_iS (as := [.long ((((xs (ix (v3 + (1 : Int32)))).toInt64) <<< ((32 : Int32).toInt64 &&& 63)) ||| (((xs (ix (v3 + (2 : Int32)))).toInt64) &&& (4294967295 : Int64))), .int (xs (ix (v3 + (3 : Int32))))]) (st := []) dL_law_267 cl_L_20 (by decide) rfl rfl (m_X9_type S T U V ((((xs (ix (v3 + (1 : Int32)))).toInt64) <<< ((32 : Int32).toInt64 &&& 63)) ||| (((xs (ix (v3 + (2 : Int32)))).toInt64) &&& (4294967295 : Int64))) (xs (ix (v3 + (3 : Int32))))) (by decide) rfl (Nat.le_of_ble_eq_true rfl) (fun q19 _ => ?_)
          refine r_aload_n dL_law_270 2 rfl rfl ?_
          refine r_aload_n dL_law_271 0 rfl rfl ?_
          refine r_iload_n dL_law_272 3 rfl rfl ?_
          refine r_iconst (v := (1 : Int32)) dL_law_273 rfl ?_
          refine r_iadd dL_law_274 ?_
          refine r_sld rfl dL_law_275 (fun h20 => ?_)
          refine r_i2l dL_law_276 ?_
          refine r_bipush (v := (32 : Int32)) dL_law_277 rfl ?_
          refine r_lshl dL_law_279 ?_
          refine r_aload_n dL_law_280 0 rfl rfl ?_
          refine r_iload_n dL_law_281 3 rfl rfl ?_
          refine r_iconst (v := (2 : Int32)) dL_law_282 rfl ?_
          refine r_iadd dL_law_283 ?_
          refine r_sld rfl dL_law_284 (fun h21 => ?_)
          refine r_i2l dL_law_285 ?_
          refine r_ldc2_w (v := (4294967295 : Int64)) dL_law_286 kw_L_18 ?_
          refine r_land dL_law_289 ?_
          refine r_lor dL_law_290 ?_
          refine r_aload_n dL_law_291 0 rfl rfl ?_
          refine r_iload_n dL_law_292 3 rfl rfl ?_
          refine r_iconst (v := (3 : Int32)) dL_law_293 rfl ?_
          refine r_iadd dL_law_294 ?_
          refine r_sld rfl dL_law_295 (fun h22 => ?_)
          refine rVm_iS (as := [.long ((((xs (ix (v3 + (1 : Int32)))).toInt64) <<< ((32 : Int32).toInt64 &&& 63)) ||| (((xs (ix (v3 + (2 : Int32)))).toInt64) &&& (4294967295 : Int64))), .int (xs (ix (v3 + (3 : Int32))))]) (st := [.int q19.1]) dL_law_296 cl_L_24 (by decide) rfl rfl (m_X10_type q19.2 T U V ((((xs (ix (v3 + (1 : Int32)))).toInt64) <<< ((32 : Int32).toInt64 &&& 63)) ||| (((xs (ix (v3 + (2 : Int32)))).toInt64) &&& (4294967295 : Int64))) (xs (ix (v3 + (3 : Int32))))) (by decide) rfl (Nat.le_of_ble_eq_true rfl) (fun q23 _ => ?_)
          refine r_icmp_eq (tgt := 1341) dL_law_299 (by decide) (fun h24 => ?_) (fun h24 => ?_)
          · refine r_iinc (v := v3 + (8 : Int32)) (L' := [(3, .int (v3 + (8 : Int32))), (0, .ref 1000), (1, .ref 0), (2, .ref 78)]) dL_law_1341 3 rfl rfl (by decide) rfl ?_
            refine r_goto (tgt := 18) dL_law_1344 (by decide) ?_
            exact r_pick [1, 2, 3, 0] rfl (ih (v3 + (8 : Int32)) q19.2 T q23.2 V)
          · refine r_iconst (v := (0 : Int32)) dL_law_302 rfl ?_
            exact r_ireturn (ty := .boolean) dL_law_303 rfl rfl rfl
        · skip
          refine r_if (fun h25 => ?_) (fun h25 => ?_)
          · refine r_tableIn (off := 271) (tgt := 304) dL_law_33 2 h25 (by decide) (by decide) (by decide) (by decide) ?_
            refine r_aload_n dL_law_304 1 rfl rfl ?_
            refine rVc_iS (as := []) (st := []) dL_law_305 cl_L_25 (by decide) rfl rfl (m_X9_socks S T U V) (by decide) rfl (Nat.le_of_ble_eq_true rfl) (fun q26 _ => ?_)
            refine r_aload_n dL_law_308 2 rfl rfl ?_
            refine rVm_iS (as := []) (st := [.int q26.1]) dL_law_309 cl_L_29 (by decide) rfl rfl (m_X10_socks q26.2 T U V) (by decide) rfl (Nat.le_of_ble_eq_true rfl) (fun q27 _ => ?_)
            refine r_icmp_eq (tgt := 1341) dL_law_312 (by decide) (fun h28 => ?_) (fun h28 => ?_)
            · refine r_iinc (v := v3 + (8 : Int32)) (L' := [(3, .int (v3 + (8 : Int32))), (0, .ref 1000), (1, .ref 0), (2, .ref 78)]) dL_law_1341 3 rfl rfl (by decide) rfl ?_
              refine r_goto (tgt := 18) dL_law_1344 (by decide) ?_
              exact r_pick [1, 2, 3, 0] rfl (ih (v3 + (8 : Int32)) q26.2 T q27.2 V)
            · refine r_iconst (v := (0 : Int32)) dL_law_315 rfl ?_
              exact r_ireturn (ty := .boolean) dL_law_316 rfl rfl rfl
          · skip
            refine r_if (fun h29 => ?_) (fun h29 => ?_)
            · refine r_tableIn (off := 284) (tgt := 317) dL_law_33 3 h29 (by decide) (by decide) (by decide) (by decide) ?_
              refine r_aload_n dL_law_317 1 rfl rfl ?_
              refine r_aload_n dL_law_318 0 rfl rfl ?_
              refine r_iload_n dL_law_319 3 rfl rfl ?_
              refine r_iconst (v := (1 : Int32)) dL_law_320 rfl ?_
              refine r_iadd dL_law_321 ?_
              refine r_sld rfl dL_law_322 (fun h30 => ?_)
              refine r_aload_n dL_law_323 0 rfl rfl ?_
              refine r_iload_n dL_law_324 3 rfl rfl ?_
              refine r_iconst (v := (2 : Int32)) dL_law_325 rfl ?_
              refine r_iadd dL_law_326 ?_
              refine r_sld rfl dL_law_327 (fun h31 => ?_)
              refine rV_i (as := [.int (xs (ix (v3 + (1 : Int32)))), .int (xs (ix (v3 + (2 : Int32))))]) (st := []) dL_law_328 cl_L_30 (by decide) rfl rfl (m_X9_told S T U V (xs (ix (v3 + (1 : Int32)))) (xs (ix (v3 + (2 : Int32))))) (by decide) rfl (Nat.le_of_ble_eq_true rfl) (fun q32 _ => ?_)
              refine r_aload_n dL_law_331 2 rfl rfl ?_
              refine r_aload_n dL_law_332 0 rfl rfl ?_
              refine r_iload_n dL_law_333 3 rfl rfl ?_
              refine r_iconst (v := (1 : Int32)) dL_law_334 rfl ?_
              refine r_iadd dL_law_335 ?_
              refine r_sld rfl dL_law_336 (fun h33 => ?_)
              refine r_aload_n dL_law_337 0 rfl rfl ?_
              refine r_iload_n dL_law_338 3 rfl rfl ?_
              refine r_iconst (v := (2 : Int32)) dL_law_339 rfl ?_
              refine r_iadd dL_law_340 ?_
              refine r_sld rfl dL_law_341 (fun h34 => ?_)
              refine rV_i (as := [.int (xs (ix (v3 + (1 : Int32)))), .int (xs (ix (v3 + (2 : Int32))))]) (st := [.int q32]) dL_law_342 cl_L_34 (by decide) rfl rfl (m_X10_told S T U V (xs (ix (v3 + (1 : Int32)))) (xs (ix (v3 + (2 : Int32))))) (by decide) rfl (Nat.le_of_ble_eq_true rfl) (fun q35 _ => ?_)
              refine r_icmp_eq (tgt := 1341) dL_law_345 (by decide) (fun h36 => ?_) (fun h36 => ?_)
              · refine r_iinc (v := v3 + (8 : Int32)) (L' := [(3, .int (v3 + (8 : Int32))), (0, .ref 1000), (1, .ref 0), (2, .ref 78)]) dL_law_1341 3 rfl rfl (by decide) rfl ?_
                refine r_goto (tgt := 18) dL_law_1344 (by decide) ?_
                exact r_pick [1, 2, 3, 0] rfl (ih (v3 + (8 : Int32)) S T U V)
              · refine r_iconst (v := (0 : Int32)) dL_law_348 rfl ?_
                exact r_ireturn (ty := .boolean) dL_law_349 rfl rfl rfl
            · skip
              refine r_if (fun h37 => ?_) (fun h37 => ?_)
              · refine r_tableIn (off := 317) (tgt := 350) dL_law_33 4 h37 (by decide) (by decide) (by decide) (by decide) ?_
                refine r_aload_n dL_law_350 1 rfl rfl ?_
                refine r_aload_n dL_law_351 0 rfl rfl ?_
                refine r_iload_n dL_law_352 3 rfl rfl ?_
                refine r_iconst (v := (1 : Int32)) dL_law_353 rfl ?_
                refine r_iadd dL_law_354 ?_
                refine r_sld rfl dL_law_355 (fun h38 => ?_)
                refine r_aload_n dL_law_356 0 rfl rfl ?_
                refine r_iload_n dL_law_357 3 rfl rfl ?_
                refine r_iconst (v := (2 : Int32)) dL_law_358 rfl ?_
                refine r_iadd dL_law_359 ?_
                refine r_sld rfl dL_law_360 (fun h39 => ?_)
                refine rVc_iS (as := [.int (xs (ix (v3 + (1 : Int32)))), .int (xs (ix (v3 + (2 : Int32))))]) (st := []) dL_law_361 cl_L_35 (by decide) rfl rfl (m_X9_fade S T U V (xs (ix (v3 + (1 : Int32)))) (xs (ix (v3 + (2 : Int32))))) (by decide) rfl (Nat.le_of_ble_eq_true rfl) (fun q40 _ => ?_)
                refine r_aload_n dL_law_364 2 rfl rfl ?_
                refine r_aload_n dL_law_365 0 rfl rfl ?_
                refine r_iload_n dL_law_366 3 rfl rfl ?_
                refine r_iconst (v := (1 : Int32)) dL_law_367 rfl ?_
                refine r_iadd dL_law_368 ?_
                refine r_sld rfl dL_law_369 (fun h41 => ?_)
                refine r_aload_n dL_law_370 0 rfl rfl ?_
                refine r_iload_n dL_law_371 3 rfl rfl ?_
                refine r_iconst (v := (2 : Int32)) dL_law_372 rfl ?_
                refine r_iadd dL_law_373 ?_
                refine r_sld rfl dL_law_374 (fun h42 => ?_)
                refine rVm_iS (as := [.int (xs (ix (v3 + (1 : Int32)))), .int (xs (ix (v3 + (2 : Int32))))]) (st := [.int q40.1]) dL_law_375 cl_L_38 (by decide) rfl rfl (m_X10_fade q40.2 T U V (xs (ix (v3 + (1 : Int32)))) (xs (ix (v3 + (2 : Int32))))) (by decide) rfl (Nat.le_of_ble_eq_true rfl) (fun q43 _ => ?_)
                refine r_icmp_eq (tgt := 1341) dL_law_378 (by decide) (fun h44 => ?_) (fun h44 => ?_)
                · refine r_iinc (v := v3 + (8 : Int32)) (L' := [(3, .int (v3 + (8 : Int32))), (0, .ref 1000), (1, .ref 0), (2, .ref 78)]) dL_law_1341 3 rfl rfl (by decide) rfl ?_
                  refine r_goto (tgt := 18) dL_law_1344 (by decide) ?_
                  exact r_pick [1, 2, 3, 0] rfl (ih (v3 + (8 : Int32)) q40.2 T q43.2 V)
                · refine r_iconst (v := (0 : Int32)) dL_law_381 rfl ?_
                  exact r_ireturn (ty := .boolean) dL_law_382 rfl rfl rfl
              · skip
                refine r_if (fun h45 => ?_) (fun h45 => ?_)
                · refine r_tableIn (off := 350) (tgt := 383) dL_law_33 5 h45 (by decide) (by decide) (by decide) (by decide) ?_
                  refine r_aload_n dL_law_383 1 rfl rfl ?_
                  refine r_aload_n dL_law_384 0 rfl rfl ?_
                  refine r_iload_n dL_law_385 3 rfl rfl ?_
                  refine r_iconst (v := (1 : Int32)) dL_law_386 rfl ?_
                  refine r_iadd dL_law_387 ?_
                  refine r_sld rfl dL_law_388 (fun h46 => ?_)
                  refine r_aload_n dL_law_389 0 rfl rfl ?_
                  refine r_iload_n dL_law_390 3 rfl rfl ?_
                  refine r_iconst (v := (2 : Int32)) dL_law_391 rfl ?_
                  refine r_iadd dL_law_392 ?_
                  refine r_sld rfl dL_law_393 (fun h47 => ?_)
                  refine rVc_iS (as := [.int (xs (ix (v3 + (1 : Int32)))), .int (xs (ix (v3 + (2 : Int32))))]) (st := []) dL_law_394 cl_L_39 (by decide) rfl rfl (m_X9_set S T U V (xs (ix (v3 + (1 : Int32)))) (xs (ix (v3 + (2 : Int32))))) (by decide) rfl (Nat.le_of_ble_eq_true rfl) (fun q48 _ => ?_)
                  refine r_aload_n dL_law_397 2 rfl rfl ?_
                  refine r_aload_n dL_law_398 0 rfl rfl ?_
                  refine r_iload_n dL_law_399 3 rfl rfl ?_
                  refine r_iconst (v := (1 : Int32)) dL_law_400 rfl ?_
                  refine r_iadd dL_law_401 ?_
                  refine r_sld rfl dL_law_402 (fun h49 => ?_)
                  refine r_aload_n dL_law_403 0 rfl rfl ?_
                  refine r_iload_n dL_law_404 3 rfl rfl ?_
                  refine r_iconst (v := (2 : Int32)) dL_law_405 rfl ?_
                  refine r_iadd dL_law_406 ?_
                  refine r_sld rfl dL_law_407 (fun h50 => ?_)
                  refine rVm_iS (as := [.int (xs (ix (v3 + (1 : Int32)))), .int (xs (ix (v3 + (2 : Int32))))]) (st := [.int q48.1]) dL_law_408 cl_L_42 (by decide) rfl rfl (m_X10_set q48.2 T U V (xs (ix (v3 + (1 : Int32)))) (xs (ix (v3 + (2 : Int32))))) (by decide) rfl (Nat.le_of_ble_eq_true rfl) (fun q51 _ => ?_)
                  refine r_icmp_eq (tgt := 1341) dL_law_411 (by decide) (fun h52 => ?_) (fun h52 => ?_)
                  · refine r_iinc (v := v3 + (8 : Int32)) (L' := [(3, .int (v3 + (8 : Int32))), (0, .ref 1000), (1, .ref 0), (2, .ref 78)]) dL_law_1341 3 rfl rfl (by decide) rfl ?_
                    refine r_goto (tgt := 18) dL_law_1344 (by decide) ?_
                    exact r_pick [1, 2, 3, 0] rfl (ih (v3 + (8 : Int32)) q48.2 T q51.2 V)
                  · refine r_iconst (v := (0 : Int32)) dL_law_414 rfl ?_
                    exact r_ireturn (ty := .boolean) dL_law_415 rfl rfl rfl
                · skip
                  refine r_if (fun h53 => ?_) (fun h53 => ?_)
                  · refine r_tableIn (off := 383) (tgt := 416) dL_law_33 6 h53 (by decide) (by decide) (by decide) (by decide) ?_
                    refine r_aload_n dL_law_416 1 rfl rfl ?_
                    refine r_aload_n dL_law_417 0 rfl rfl ?_
                    refine r_iload_n dL_law_418 3 rfl rfl ?_
                    refine r_iconst (v := (1 : Int32)) dL_law_419 rfl ?_
                    refine r_iadd dL_law_420 ?_
                    refine r_sld rfl dL_law_421 (fun h54 => ?_)
                    refine r_aload_n dL_law_422 0 rfl rfl ?_
                    refine r_iload_n dL_law_423 3 rfl rfl ?_
                    refine r_iconst (v := (2 : Int32)) dL_law_424 rfl ?_
                    refine r_iadd dL_law_425 ?_
                    refine r_sld rfl dL_law_426 (fun h55 => ?_)
                    refine rVc_iS (as := [.int (xs (ix (v3 + (1 : Int32)))), .int (xs (ix (v3 + (2 : Int32))))]) (st := []) dL_law_427 cl_L_43 (by decide) rfl rfl (m_X9_monday S T U V (xs (ix (v3 + (1 : Int32)))) (xs (ix (v3 + (2 : Int32))))) (by decide) rfl (Nat.le_of_ble_eq_true rfl) (fun q56 _ => ?_)
                    refine r_aload_n dL_law_430 2 rfl rfl ?_
                    refine r_aload_n dL_law_431 0 rfl rfl ?_
                    refine r_iload_n dL_law_432 3 rfl rfl ?_
                    refine r_iconst (v := (1 : Int32)) dL_law_433 rfl ?_
                    refine r_iadd dL_law_434 ?_
                    refine r_sld rfl dL_law_435 (fun h57 => ?_)
                    refine r_aload_n dL_law_436 0 rfl rfl ?_
                    refine r_iload_n dL_law_437 3 rfl rfl ?_
                    refine r_iconst (v := (2 : Int32)) dL_law_438 rfl ?_
                    refine r_iadd dL_law_439 ?_
                    refine r_sld rfl dL_law_440 (fun h58 => ?_)
                    refine rVm_iS (as := [.int (xs (ix (v3 + (1 : Int32)))), .int (xs (ix (v3 + (2 : Int32))))]) (st := [.int q56.1]) dL_law_441 cl_L_46 (by decide) rfl rfl (m_X10_monday q56.2 T U V (xs (ix (v3 + (1 : Int32)))) (xs (ix (v3 + (2 : Int32))))) (by decide) rfl (Nat.le_of_ble_eq_true rfl) (fun q59 _ => ?_)
                    refine r_icmp_eq (tgt := 1341) dL_law_444 (by decide) (fun h60 => ?_) (fun h60 => ?_)
                    · refine r_iinc (v := v3 + (8 : Int32)) (L' := [(3, .int (v3 + (8 : Int32))), (0, .ref 1000), (1, .ref 0), (2, .ref 78)]) dL_law_1341 3 rfl rfl (by decide) rfl ?_
                      refine r_goto (tgt := 18) dL_law_1344 (by decide) ?_
                      exact r_pick [1, 2, 3, 0] rfl (ih (v3 + (8 : Int32)) q56.2 T q59.2 V)
                    · refine r_iconst (v := (0 : Int32)) dL_law_447 rfl ?_
                      exact r_ireturn (ty := .boolean) dL_law_448 rfl rfl rfl
                  · skip
                    refine r_if (fun h61 => ?_) (fun h61 => ?_)
                    · refine r_tableIn (off := 416) (tgt := 449) dL_law_33 7 h61 (by decide) (by decide) (by decide) (by decide) ?_
                      refine r_aload_n dL_law_449 1 rfl rfl ?_
                      refine r_aload_n dL_law_450 0 rfl rfl ?_
                      refine r_iload_n dL_law_451 3 rfl rfl ?_
                      refine r_iconst (v := (1 : Int32)) dL_law_452 rfl ?_
                      refine r_iadd dL_law_453 ?_
                      refine r_sld rfl dL_law_454 (fun h62 => ?_)
                      refine rVc_iS (as := [.int (xs (ix (v3 + (1 : Int32))))]) (st := []) dL_law_455 cl_L_47 (by decide) rfl rfl (m_X9_found S T U V (xs (ix (v3 + (1 : Int32))))) (by decide) rfl (Nat.le_of_ble_eq_true rfl) (fun q63 _ => ?_)
                      refine r_aload_n dL_law_458 2 rfl rfl ?_
                      refine r_aload_n dL_law_459 0 rfl rfl ?_
                      refine r_iload_n dL_law_460 3 rfl rfl ?_
                      refine r_iconst (v := (1 : Int32)) dL_law_461 rfl ?_
                      refine r_iadd dL_law_462 ?_
                      refine r_sld rfl dL_law_463 (fun h64 => ?_)
                      refine rVm_iS (as := [.int (xs (ix (v3 + (1 : Int32))))]) (st := [.int q63.1]) dL_law_464 cl_L_51 (by decide) rfl rfl (m_X10_found q63.2 T U V (xs (ix (v3 + (1 : Int32))))) (by decide) rfl (Nat.le_of_ble_eq_true rfl) (fun q65 _ => ?_)
                      refine r_icmp_eq (tgt := 1341) dL_law_467 (by decide) (fun h66 => ?_) (fun h66 => ?_)
                      · refine r_iinc (v := v3 + (8 : Int32)) (L' := [(3, .int (v3 + (8 : Int32))), (0, .ref 1000), (1, .ref 0), (2, .ref 78)]) dL_law_1341 3 rfl rfl (by decide) rfl ?_
                        refine r_goto (tgt := 18) dL_law_1344 (by decide) ?_
                        exact r_pick [1, 2, 3, 0] rfl (ih (v3 + (8 : Int32)) q63.2 T q65.2 V)
                      · refine r_iconst (v := (0 : Int32)) dL_law_470 rfl ?_
                        exact r_ireturn (ty := .boolean) dL_law_471 rfl rfl rfl
                    · skip
                      refine r_if (fun h67 => ?_) (fun h67 => ?_)
                      · refine r_tableIn (off := 439) (tgt := 472) dL_law_33 8 h67 (by decide) (by decide) (by decide) (by decide) ?_
                        refine r_aload_n dL_law_472 1 rfl rfl ?_
                        refine r_aload_n dL_law_473 0 rfl rfl ?_
                        refine r_iload_n dL_law_474 3 rfl rfl ?_
                        refine r_iconst (v := (1 : Int32)) dL_law_475 rfl ?_
                        refine r_iadd dL_law_476 ?_
                        refine r_sld rfl dL_law_477 (fun h68 => ?_)
                        refine r_aload_n dL_law_478 0 rfl rfl ?_
                        refine r_iload_n dL_law_479 3 rfl rfl ?_
                        refine r_iconst (v := (2 : Int32)) dL_law_480 rfl ?_
                        refine r_iadd dL_law_481 ?_
                        refine r_sld rfl dL_law_482 (fun h69 => ?_)
                        refine rV_i (as := [.int (xs (ix (v3 + (1 : Int32)))), .int (xs (ix (v3 + (2 : Int32))))]) (st := []) dL_law_483 cl_L_52 (by decide) rfl rfl (m_X9_alike S T U V (xs (ix (v3 + (1 : Int32)))) (xs (ix (v3 + (2 : Int32))))) (by decide) rfl (Nat.le_of_ble_eq_true rfl) (fun q70 _ => ?_)
                        refine r_aload_n dL_law_486 2 rfl rfl ?_
                        refine r_aload_n dL_law_487 0 rfl rfl ?_
                        refine r_iload_n dL_law_488 3 rfl rfl ?_
                        refine r_iconst (v := (1 : Int32)) dL_law_489 rfl ?_
                        refine r_iadd dL_law_490 ?_
                        refine r_sld rfl dL_law_491 (fun h71 => ?_)
                        refine r_aload_n dL_law_492 0 rfl rfl ?_
                        refine r_iload_n dL_law_493 3 rfl rfl ?_
                        refine r_iconst (v := (2 : Int32)) dL_law_494 rfl ?_
                        refine r_iadd dL_law_495 ?_
                        refine r_sld rfl dL_law_496 (fun h72 => ?_)
                        refine rV_i (as := [.int (xs (ix (v3 + (1 : Int32)))), .int (xs (ix (v3 + (2 : Int32))))]) (st := [.int q70]) dL_law_497 cl_L_55 (by decide) rfl rfl (m_X10_alike S T U V (xs (ix (v3 + (1 : Int32)))) (xs (ix (v3 + (2 : Int32))))) (by decide) rfl (Nat.le_of_ble_eq_true rfl) (fun q73 _ => ?_)
                        refine r_icmp_eq (tgt := 1341) dL_law_500 (by decide) (fun h74 => ?_) (fun h74 => ?_)
                        · refine r_iinc (v := v3 + (8 : Int32)) (L' := [(3, .int (v3 + (8 : Int32))), (0, .ref 1000), (1, .ref 0), (2, .ref 78)]) dL_law_1341 3 rfl rfl (by decide) rfl ?_
                          refine r_goto (tgt := 18) dL_law_1344 (by decide) ?_
                          exact r_pick [1, 2, 3, 0] rfl (ih (v3 + (8 : Int32)) S T U V)
                        · refine r_iconst (v := (0 : Int32)) dL_law_503 rfl ?_
                          exact r_ireturn (ty := .boolean) dL_law_504 rfl rfl rfl
                      · skip
                        refine r_if (fun h75 => ?_) (fun h75 => ?_)
                        · refine r_tableIn (off := 472) (tgt := 505) dL_law_33 9 h75 (by decide) (by decide) (by decide) (by decide) ?_
                          refine r_aload_n dL_law_505 1 rfl rfl ?_
                          refine r_aload_n dL_law_506 0 rfl rfl ?_
                          refine r_iload_n dL_law_507 3 rfl rfl ?_
                          refine r_iconst (v := (1 : Int32)) dL_law_508 rfl ?_
                          refine r_iadd dL_law_509 ?_
                          refine r_sld rfl dL_law_510 (fun h76 => ?_)
                          refine r_aload_n dL_law_511 0 rfl rfl ?_
                          refine r_iload_n dL_law_512 3 rfl rfl ?_
                          refine r_iconst (v := (2 : Int32)) dL_law_513 rfl ?_
                          refine r_iadd dL_law_514 ?_
                          refine r_sld rfl dL_law_515 (fun h77 => ?_)
                          refine rV_i (as := [.int (xs (ix (v3 + (1 : Int32)))), .int (xs (ix (v3 + (2 : Int32))))]) (st := []) dL_law_516 cl_L_56 (by decide) rfl rfl (m_X9_fellows S T U V (xs (ix (v3 + (1 : Int32)))) (xs (ix (v3 + (2 : Int32))))) (by decide) rfl (Nat.le_of_ble_eq_true rfl) (fun q78 _ => ?_)
                          refine r_aload_n dL_law_519 2 rfl rfl ?_
                          refine r_aload_n dL_law_520 0 rfl rfl ?_
                          refine r_iload_n dL_law_521 3 rfl rfl ?_
                          refine r_iconst (v := (1 : Int32)) dL_law_522 rfl ?_
                          refine r_iadd dL_law_523 ?_
                          refine r_sld rfl dL_law_524 (fun h79 => ?_)
                          refine r_aload_n dL_law_525 0 rfl rfl ?_
                          refine r_iload_n dL_law_526 3 rfl rfl ?_
                          refine r_iconst (v := (2 : Int32)) dL_law_527 rfl ?_
                          refine r_iadd dL_law_528 ?_
                          refine r_sld rfl dL_law_529 (fun h80 => ?_)
                          refine rV_i (as := [.int (xs (ix (v3 + (1 : Int32)))), .int (xs (ix (v3 + (2 : Int32))))]) (st := [.int q78]) dL_law_530 cl_L_59 (by decide) rfl rfl (m_X10_fellows S T U V (xs (ix (v3 + (1 : Int32)))) (xs (ix (v3 + (2 : Int32))))) (by decide) rfl (Nat.le_of_ble_eq_true rfl) (fun q81 _ => ?_)
                          refine r_icmp_eq (tgt := 1341) dL_law_533 (by decide) (fun h82 => ?_) (fun h82 => ?_)
                          · refine r_iinc (v := v3 + (8 : Int32)) (L' := [(3, .int (v3 + (8 : Int32))), (0, .ref 1000), (1, .ref 0), (2, .ref 78)]) dL_law_1341 3 rfl rfl (by decide) rfl ?_
                            refine r_goto (tgt := 18) dL_law_1344 (by decide) ?_
                            exact r_pick [1, 2, 3, 0] rfl (ih (v3 + (8 : Int32)) S T U V)
                          · refine r_iconst (v := (0 : Int32)) dL_law_536 rfl ?_
                            exact r_ireturn (ty := .boolean) dL_law_537 rfl rfl rfl
                        · skip
                          refine r_if (fun h83 => ?_) (fun h83 => ?_)
                          · refine r_tableIn (off := 505) (tgt := 538) dL_law_33 10 h83 (by decide) (by decide) (by decide) (by decide) ?_
                            refine r_aload_n dL_law_538 1 rfl rfl ?_
                            refine r_aload_n dL_law_539 0 rfl rfl ?_
                            refine r_iload_n dL_law_540 3 rfl rfl ?_
                            refine r_iconst (v := (1 : Int32)) dL_law_541 rfl ?_
                            refine r_iadd dL_law_542 ?_
                            refine r_sld rfl dL_law_543 (fun h84 => ?_)
                            refine rV_i (as := [.int (xs (ix (v3 + (1 : Int32))))]) (st := []) dL_law_544 cl_L_60 (by decide) rfl rfl (m_X9_count S T U V (xs (ix (v3 + (1 : Int32))))) (by decide) rfl (Nat.le_of_ble_eq_true rfl) (fun q85 _ => ?_)
                            refine r_aload_n dL_law_547 2 rfl rfl ?_
                            refine r_aload_n dL_law_548 0 rfl rfl ?_
                            refine r_iload_n dL_law_549 3 rfl rfl ?_
                            refine r_iconst (v := (1 : Int32)) dL_law_550 rfl ?_
                            refine r_iadd dL_law_551 ?_
                            refine r_sld rfl dL_law_552 (fun h86 => ?_)
                            refine rV_i (as := [.int (xs (ix (v3 + (1 : Int32))))]) (st := [.int q85]) dL_law_553 cl_L_63 (by decide) rfl rfl (m_X10_count S T U V (xs (ix (v3 + (1 : Int32))))) (by decide) rfl (Nat.le_of_ble_eq_true rfl) (fun q87 _ => ?_)
                            refine r_icmp_eq (tgt := 1341) dL_law_556 (by decide) (fun h88 => ?_) (fun h88 => ?_)
                            · refine r_iinc (v := v3 + (8 : Int32)) (L' := [(3, .int (v3 + (8 : Int32))), (0, .ref 1000), (1, .ref 0), (2, .ref 78)]) dL_law_1341 3 rfl rfl (by decide) rfl ?_
                              refine r_goto (tgt := 18) dL_law_1344 (by decide) ?_
                              exact r_pick [1, 2, 3, 0] rfl (ih (v3 + (8 : Int32)) S T U V)
                            · refine r_iconst (v := (0 : Int32)) dL_law_559 rfl ?_
                              exact r_ireturn (ty := .boolean) dL_law_560 rfl rfl rfl
                          · skip
                            refine r_if (fun h89 => ?_) (fun h89 => ?_)
                            · refine r_tableIn (off := 528) (tgt := 561) dL_law_33 11 h89 (by decide) (by decide) (by decide) (by decide) ?_
                              refine r_aload_n dL_law_561 1 rfl rfl ?_
                              refine r_aload_n dL_law_562 0 rfl rfl ?_
                              refine r_iload_n dL_law_563 3 rfl rfl ?_
                              refine r_iconst (v := (1 : Int32)) dL_law_564 rfl ?_
                              refine r_iadd dL_law_565 ?_
                              refine r_sld rfl dL_law_566 (fun h90 => ?_)
                              refine rVc_iS (as := [.int (xs (ix (v3 + (1 : Int32))))]) (st := []) dL_law_567 cl_L_64 (by decide) rfl rfl (m_X9_pairs S T U V (xs (ix (v3 + (1 : Int32))))) (by decide) rfl (Nat.le_of_ble_eq_true rfl) (fun q91 _ => ?_)
                              refine r_aload_n dL_law_570 2 rfl rfl ?_
                              refine r_aload_n dL_law_571 0 rfl rfl ?_
                              refine r_iload_n dL_law_572 3 rfl rfl ?_
                              refine r_iconst (v := (1 : Int32)) dL_law_573 rfl ?_
                              refine r_iadd dL_law_574 ?_
                              refine r_sld rfl dL_law_575 (fun h92 => ?_)
                              refine rVm_iS (as := [.int (xs (ix (v3 + (1 : Int32))))]) (st := [.int q91.1]) dL_law_576 cl_L_67 (by decide) rfl rfl (m_X10_pairs q91.2 T U V (xs (ix (v3 + (1 : Int32))))) (by decide) rfl (Nat.le_of_ble_eq_true rfl) (fun q93 _ => ?_)
                              refine r_icmp_eq (tgt := 1341) dL_law_579 (by decide) (fun h94 => ?_) (fun h94 => ?_)
                              · refine r_iinc (v := v3 + (8 : Int32)) (L' := [(3, .int (v3 + (8 : Int32))), (0, .ref 1000), (1, .ref 0), (2, .ref 78)]) dL_law_1341 3 rfl rfl (by decide) rfl ?_
                                refine r_goto (tgt := 18) dL_law_1344 (by decide) ?_
                                exact r_pick [1, 2, 3, 0] rfl (ih (v3 + (8 : Int32)) q91.2 T q93.2 V)
                              · refine r_iconst (v := (0 : Int32)) dL_law_582 rfl ?_
                                exact r_ireturn (ty := .boolean) dL_law_583 rfl rfl rfl
                            · skip
                              refine r_if (fun h95 => ?_) (fun h95 => ?_)
                              · refine r_tableIn (off := 551) (tgt := 584) dL_law_33 12 h95 (by decide) (by decide) (by decide) (by decide) ?_
                                refine r_aload_n dL_law_584 1 rfl rfl ?_
                                refine r_aload_n dL_law_585 0 rfl rfl ?_
                                refine r_iload_n dL_law_586 3 rfl rfl ?_
                                refine r_iconst (v := (1 : Int32)) dL_law_587 rfl ?_
                                refine r_iadd dL_law_588 ?_
                                refine r_sld rfl dL_law_589 (fun h96 => ?_)
                                refine rVc_iS (as := [.int (xs (ix (v3 + (1 : Int32))))]) (st := []) dL_law_590 cl_L_68 (by decide) rfl rfl (m_X9_fellow S T U V (xs (ix (v3 + (1 : Int32))))) (by decide) rfl (Nat.le_of_ble_eq_true rfl) (fun q97 _ => ?_)
                                refine r_aload_n dL_law_593 2 rfl rfl ?_
                                refine r_aload_n dL_law_594 0 rfl rfl ?_
                                refine r_iload_n dL_law_595 3 rfl rfl ?_
                                refine r_iconst (v := (1 : Int32)) dL_law_596 rfl ?_
                                refine r_iadd dL_law_597 ?_
                                refine r_sld rfl dL_law_598 (fun h98 => ?_)
                                refine rVm_iS (as := [.int (xs (ix (v3 + (1 : Int32))))]) (st := [.int q97.1]) dL_law_599 cl_L_71 (by decide) rfl rfl (m_X10_fellow q97.2 T U V (xs (ix (v3 + (1 : Int32))))) (by decide) rfl (Nat.le_of_ble_eq_true rfl) (fun q99 _ => ?_)
                                refine r_icmp_eq (tgt := 1341) dL_law_602 (by decide) (fun h100 => ?_) (fun h100 => ?_)
                                · refine r_iinc (v := v3 + (8 : Int32)) (L' := [(3, .int (v3 + (8 : Int32))), (0, .ref 1000), (1, .ref 0), (2, .ref 78)]) dL_law_1341 3 rfl rfl (by decide) rfl ?_
                                  refine r_goto (tgt := 18) dL_law_1344 (by decide) ?_
                                  exact r_pick [1, 2, 3, 0] rfl (ih (v3 + (8 : Int32)) q97.2 T q99.2 V)
                                · refine r_iconst (v := (0 : Int32)) dL_law_605 rfl ?_
                                  exact r_ireturn (ty := .boolean) dL_law_606 rfl rfl rfl
                              · skip
                                refine r_if (fun h101 => ?_) (fun h101 => ?_)
                                · refine r_tableIn (off := 574) (tgt := 607) dL_law_33 13 h101 (by decide) (by decide) (by decide) (by decide) ?_
                                  refine r_aload_n dL_law_607 1 rfl rfl ?_
                                  refine rVc_iS (as := []) (st := []) dL_law_608 cl_L_72 (by decide) rfl rfl (m_X9_pairUp S T U V) (by decide) rfl (Nat.le_of_ble_eq_true rfl) (fun q102 _ => ?_)
                                  refine r_aload_n dL_law_611 2 rfl rfl ?_
                                  refine rVm_iS (as := []) (st := [.int q102.1]) dL_law_612 cl_L_75 (by decide) rfl rfl (m_X10_pairUp q102.2 T U V) (by decide) rfl (Nat.le_of_ble_eq_true rfl) (fun q103 _ => ?_)
                                  refine r_icmp_eq (tgt := 1341) dL_law_615 (by decide) (fun h104 => ?_) (fun h104 => ?_)
                                  · refine r_iinc (v := v3 + (8 : Int32)) (L' := [(3, .int (v3 + (8 : Int32))), (0, .ref 1000), (1, .ref 0), (2, .ref 78)]) dL_law_1341 3 rfl rfl (by decide) rfl ?_
                                    refine r_goto (tgt := 18) dL_law_1344 (by decide) ?_
                                    exact r_pick [1, 2, 3, 0] rfl (ih (v3 + (8 : Int32)) q102.2 T q103.2 V)
                                  · refine r_iconst (v := (0 : Int32)) dL_law_618 rfl ?_
                                    exact r_ireturn (ty := .boolean) dL_law_619 rfl rfl rfl
                                · skip
                                  refine r_if (fun h105 => ?_) (fun h105 => ?_)
                                  · refine r_tableIn (off := 587) (tgt := 620) dL_law_33 14 h105 (by decide) (by decide) (by decide) (by decide) ?_
                                    refine r_aload_n dL_law_620 1 rfl rfl ?_
                                    refine r_aload_n dL_law_621 0 rfl rfl ?_
                                    refine r_iload_n dL_law_622 3 rfl rfl ?_
                                    refine r_iconst (v := (1 : Int32)) dL_law_623 rfl ?_
                                    refine r_iadd dL_law_624 ?_
                                    refine r_sld rfl dL_law_625 (fun h106 => ?_)
                                    refine rVc_iS (as := [.int (xs (ix (v3 + (1 : Int32))))]) (st := []) dL_law_626 cl_L_76 (by decide) rfl rfl (m_X9_part S T U V (xs (ix (v3 + (1 : Int32))))) (by decide) rfl (Nat.le_of_ble_eq_true rfl) (fun q107 _ => ?_)
                                    refine r_aload_n dL_law_629 2 rfl rfl ?_
                                    refine r_aload_n dL_law_630 0 rfl rfl ?_
                                    refine r_iload_n dL_law_631 3 rfl rfl ?_
                                    refine r_iconst (v := (1 : Int32)) dL_law_632 rfl ?_
                                    refine r_iadd dL_law_633 ?_
                                    refine r_sld rfl dL_law_634 (fun h108 => ?_)
                                    refine rVm_iS (as := [.int (xs (ix (v3 + (1 : Int32))))]) (st := [.int q107.1]) dL_law_635 cl_L_79 (by decide) rfl rfl (m_X10_part q107.2 T U V (xs (ix (v3 + (1 : Int32))))) (by decide) rfl (Nat.le_of_ble_eq_true rfl) (fun q109 _ => ?_)
                                    refine r_icmp_eq (tgt := 1341) dL_law_638 (by decide) (fun h110 => ?_) (fun h110 => ?_)
                                    · refine r_iinc (v := v3 + (8 : Int32)) (L' := [(3, .int (v3 + (8 : Int32))), (0, .ref 1000), (1, .ref 0), (2, .ref 78)]) dL_law_1341 3 rfl rfl (by decide) rfl ?_
                                      refine r_goto (tgt := 18) dL_law_1344 (by decide) ?_
                                      exact r_pick [1, 2, 3, 0] rfl (ih (v3 + (8 : Int32)) q107.2 T q109.2 V)
                                    · refine r_iconst (v := (0 : Int32)) dL_law_641 rfl ?_
                                      exact r_ireturn (ty := .boolean) dL_law_642 rfl rfl rfl
                                  · skip
                                    refine r_if (fun h111 => ?_) (fun h111 => ?_)
                                    · refine r_tableIn (off := 610) (tgt := 643) dL_law_33 15 h111 (by decide) (by decide) (by decide) (by decide) ?_
                                      refine r_aload_n dL_law_643 1 rfl rfl ?_
                                      refine r_aload_n dL_law_644 0 rfl rfl ?_
                                      refine r_iload_n dL_law_645 3 rfl rfl ?_
                                      refine r_iconst (v := (1 : Int32)) dL_law_646 rfl ?_
                                      refine r_iadd dL_law_647 ?_
                                      refine r_sld rfl dL_law_648 (fun h112 => ?_)
                                      refine r_aload_n dL_law_649 0 rfl rfl ?_
                                      refine r_iload_n dL_law_650 3 rfl rfl ?_
                                      refine r_iconst (v := (2 : Int32)) dL_law_651 rfl ?_
                                      refine r_iadd dL_law_652 ?_
                                      refine r_sld rfl dL_law_653 (fun h113 => ?_)
                                      refine r_aload_n dL_law_654 0 rfl rfl ?_
                                      refine r_iload_n dL_law_655 3 rfl rfl ?_
                                      refine r_iconst (v := (3 : Int32)) dL_law_656 rfl ?_
                                      refine r_iadd dL_law_657 ?_
                                      refine r_sld rfl dL_law_658 (fun h114 => ?_)
                                      refine rV_i (as := [.int (xs (ix (v3 + (1 : Int32)))), .int (xs (ix (v3 + (2 : Int32)))), .int (xs (ix (v3 + (3 : Int32))))]) (st := []) dL_law_659 cl_L_80 (by decide) rfl rfl (m_X9_judge S T U V (xs (ix (v3 + (1 : Int32)))) (xs (ix (v3 + (2 : Int32)))) (xs (ix (v3 + (3 : Int32))))) (by decide) rfl (Nat.le_of_ble_eq_true rfl) (fun q115 _ => ?_)
                                      refine r_aload_n dL_law_662 2 rfl rfl ?_
                                      refine r_aload_n dL_law_663 0 rfl rfl ?_
                                      refine r_iload_n dL_law_664 3 rfl rfl ?_
                                      refine r_iconst (v := (1 : Int32)) dL_law_665 rfl ?_
                                      refine r_iadd dL_law_666 ?_
                                      refine r_sld rfl dL_law_667 (fun h116 => ?_)
                                      refine r_aload_n dL_law_668 0 rfl rfl ?_
                                      refine r_iload_n dL_law_669 3 rfl rfl ?_
                                      refine r_iconst (v := (2 : Int32)) dL_law_670 rfl ?_
                                      refine r_iadd dL_law_671 ?_
                                      refine r_sld rfl dL_law_672 (fun h117 => ?_)
                                      refine r_aload_n dL_law_673 0 rfl rfl ?_
                                      refine r_iload_n dL_law_674 3 rfl rfl ?_
                                      refine r_iconst (v := (3 : Int32)) dL_law_675 rfl ?_
                                      refine r_iadd dL_law_676 ?_
                                      refine r_sld rfl dL_law_677 (fun h118 => ?_)
                                      refine rV_i (as := [.int (xs (ix (v3 + (1 : Int32)))), .int (xs (ix (v3 + (2 : Int32)))), .int (xs (ix (v3 + (3 : Int32))))]) (st := [.int q115]) dL_law_678 cl_L_84 (by decide) rfl rfl (m_X10_judge S T U V (xs (ix (v3 + (1 : Int32)))) (xs (ix (v3 + (2 : Int32)))) (xs (ix (v3 + (3 : Int32))))) (by decide) rfl (Nat.le_of_ble_eq_true rfl) (fun q119 _ => ?_)
                                      refine r_icmp_eq (tgt := 1341) dL_law_681 (by decide) (fun h120 => ?_) (fun h120 => ?_)
                                      · refine r_iinc (v := v3 + (8 : Int32)) (L' := [(3, .int (v3 + (8 : Int32))), (0, .ref 1000), (1, .ref 0), (2, .ref 78)]) dL_law_1341 3 rfl rfl (by decide) rfl ?_
                                        refine r_goto (tgt := 18) dL_law_1344 (by decide) ?_
                                        exact r_pick [1, 2, 3, 0] rfl (ih (v3 + (8 : Int32)) S T U V)
                                      · refine r_iconst (v := (0 : Int32)) dL_law_684 rfl ?_
                                        exact r_ireturn (ty := .boolean) dL_law_685 rfl rfl rfl
                                    · skip
                                      refine r_if (fun h121 => ?_) (fun h121 => ?_)
                                      · refine r_tableIn (off := 653) (tgt := 686) dL_law_33 16 h121 (by decide) (by decide) (by decide) (by decide) ?_
                                        refine r_aload_n dL_law_686 1 rfl rfl ?_
                                        refine r_aload_n dL_law_687 0 rfl rfl ?_
                                        refine r_iload_n dL_law_688 3 rfl rfl ?_
                                        refine r_iconst (v := (1 : Int32)) dL_law_689 rfl ?_
                                        refine r_iadd dL_law_690 ?_
                                        refine r_sld rfl dL_law_691 (fun h122 => ?_)
                                        refine r_aload_n dL_law_692 0 rfl rfl ?_
                                        refine r_iload_n dL_law_693 3 rfl rfl ?_
                                        refine r_iconst (v := (2 : Int32)) dL_law_694 rfl ?_
                                        refine r_iadd dL_law_695 ?_
                                        refine r_sld rfl dL_law_696 (fun h123 => ?_)
                                        refine r_aload_n dL_law_697 0 rfl rfl ?_
                                        refine r_iload_n dL_law_698 3 rfl rfl ?_
                                        refine r_iconst (v := (3 : Int32)) dL_law_699 rfl ?_
                                        refine r_iadd dL_law_700 ?_
                                        refine r_sld rfl dL_law_701 (fun h124 => ?_)
                                        refine r_aload_n dL_law_702 0 rfl rfl ?_
                                        refine r_iload_n dL_law_703 3 rfl rfl ?_
                                        refine r_iconst (v := (4 : Int32)) dL_law_704 rfl ?_
                                        refine r_iadd dL_law_705 ?_
                                        refine r_sld rfl dL_law_706 (fun h125 => ?_)
                                        refine r_aload_n dL_law_707 0 rfl rfl ?_
                                        refine r_iload_n dL_law_708 3 rfl rfl ?_
                                        refine r_iconst (v := (5 : Int32)) dL_law_709 rfl ?_
                                        refine r_iadd dL_law_710 ?_
                                        refine r_sld rfl dL_law_711 (fun h126 => ?_)
                                        refine r_aload_n dL_law_712 0 rfl rfl ?_
                                        refine r_iload_n dL_law_713 3 rfl rfl ?_
                                        refine r_bipush (v := (6 : Int32)) dL_law_714 rfl ?_
                                        refine r_iadd dL_law_716 ?_
                                        refine r_sld rfl dL_law_717 (fun h127 => ?_)
                                        refine rVc_iB (as := [.int (xs (ix (v3 + (1 : Int32)))), .int (xs (ix (v3 + (2 : Int32)))), .int (xs (ix (v3 + (3 : Int32)))), .int (xs (ix (v3 + (4 : Int32)))), .int (xs (ix (v3 + (5 : Int32)))), .int (xs (ix (v3 + (6 : Int32))))]) (st := []) dL_law_718 cl_L_85 (by decide) rfl rfl (m_X9_thrown S T U V (xs (ix (v3 + (1 : Int32)))) (xs (ix (v3 + (2 : Int32)))) (xs (ix (v3 + (3 : Int32)))) (xs (ix (v3 + (4 : Int32)))) (xs (ix (v3 + (5 : Int32)))) (xs (ix (v3 + (6 : Int32))))) (by decide) rfl (Nat.le_of_ble_eq_true rfl) (fun q128 _ => ?_)
                                        refine r_aload_n dL_law_721 2 rfl rfl ?_
                                        refine r_aload_n dL_law_722 0 rfl rfl ?_
                                        refine r_iload_n dL_law_723 3 rfl rfl ?_
                                        refine r_iconst (v := (1 : Int32)) dL_law_724 rfl ?_
                                        refine r_iadd dL_law_725 ?_
                                        refine r_sld rfl dL_law_726 (fun h129 => ?_)
                                        refine r_aload_n dL_law_727 0 rfl rfl ?_
                                        refine r_iload_n dL_law_728 3 rfl rfl ?_
                                        refine r_iconst (v := (2 : Int32)) dL_law_729 rfl ?_
                                        refine r_iadd dL_law_730 ?_
                                        refine r_sld rfl dL_law_731 (fun h130 => ?_)
                                        refine r_aload_n dL_law_732 0 rfl rfl ?_
                                        refine r_iload_n dL_law_733 3 rfl rfl ?_
                                        refine r_iconst (v := (3 : Int32)) dL_law_734 rfl ?_
                                        refine r_iadd dL_law_735 ?_
                                        refine r_sld rfl dL_law_736 (fun h131 => ?_)
                                        refine r_aload_n dL_law_737 0 rfl rfl ?_
                                        refine r_iload_n dL_law_738 3 rfl rfl ?_
                                        refine r_iconst (v := (4 : Int32)) dL_law_739 rfl ?_
                                        refine r_iadd dL_law_740 ?_
                                        refine r_sld rfl dL_law_741 (fun h132 => ?_)
                                        refine r_aload_n dL_law_742 0 rfl rfl ?_
                                        refine r_iload_n dL_law_743 3 rfl rfl ?_
                                        refine r_iconst (v := (5 : Int32)) dL_law_744 rfl ?_
                                        refine r_iadd dL_law_745 ?_
                                        refine r_sld rfl dL_law_746 (fun h133 => ?_)
                                        refine r_aload_n dL_law_747 0 rfl rfl ?_
                                        refine r_iload_n dL_law_748 3 rfl rfl ?_
                                        refine r_bipush (v := (6 : Int32)) dL_law_749 rfl ?_
                                        refine r_iadd dL_law_751 ?_
                                        refine r_sld rfl dL_law_752 (fun h134 => ?_)
                                        refine rVm_iT (as := [.int (xs (ix (v3 + (1 : Int32)))), .int (xs (ix (v3 + (2 : Int32)))), .int (xs (ix (v3 + (3 : Int32)))), .int (xs (ix (v3 + (4 : Int32)))), .int (xs (ix (v3 + (5 : Int32)))), .int (xs (ix (v3 + (6 : Int32))))]) (st := [.int q128.1]) dL_law_753 cl_L_89 (by decide) rfl rfl (m_X10_thrown q128.2.1 q128.2.2 U V (xs (ix (v3 + (1 : Int32)))) (xs (ix (v3 + (2 : Int32)))) (xs (ix (v3 + (3 : Int32)))) (xs (ix (v3 + (4 : Int32)))) (xs (ix (v3 + (5 : Int32)))) (xs (ix (v3 + (6 : Int32))))) (by decide) rfl (Nat.le_of_ble_eq_true rfl) (fun q135 _ => ?_)
                                        refine r_icmp_eq (tgt := 1341) dL_law_756 (by decide) (fun h136 => ?_) (fun h136 => ?_)
                                        · refine r_iinc (v := v3 + (8 : Int32)) (L' := [(3, .int (v3 + (8 : Int32))), (0, .ref 1000), (1, .ref 0), (2, .ref 78)]) dL_law_1341 3 rfl rfl (by decide) rfl ?_
                                          refine r_goto (tgt := 18) dL_law_1344 (by decide) ?_
                                          exact r_pick [1, 2, 3, 0] rfl (ih (v3 + (8 : Int32)) q128.2.1 q128.2.2 U q135.2)
                                        · refine r_iconst (v := (0 : Int32)) dL_law_759 rfl ?_
                                          exact r_ireturn (ty := .boolean) dL_law_760 rfl rfl rfl
                                      · skip
                                        refine r_if (fun h137 => ?_) (fun h137 => ?_)
                                        · refine r_tableIn (off := 728) (tgt := 761) dL_law_33 17 h137 (by decide) (by decide) (by decide) (by decide) ?_
                                          refine r_aload_n dL_law_761 1 rfl rfl ?_
                                          refine r_aload_n dL_law_762 0 rfl rfl ?_
                                          refine r_iload_n dL_law_763 3 rfl rfl ?_
                                          refine r_iconst (v := (1 : Int32)) dL_law_764 rfl ?_
                                          refine r_iadd dL_law_765 ?_
                                          refine r_sld rfl dL_law_766 (fun h138 => ?_)
                                          refine r_aload_n dL_law_767 0 rfl rfl ?_
                                          refine r_iload_n dL_law_768 3 rfl rfl ?_
                                          refine r_iconst (v := (2 : Int32)) dL_law_769 rfl ?_
                                          refine r_iadd dL_law_770 ?_
                                          refine r_sld rfl dL_law_771 (fun h139 => ?_)
                                          refine r_aload_n dL_law_772 0 rfl rfl ?_
                                          refine r_iload_n dL_law_773 3 rfl rfl ?_
                                          refine r_iconst (v := (3 : Int32)) dL_law_774 rfl ?_
                                          refine r_iadd dL_law_775 ?_
                                          refine r_sld rfl dL_law_776 (fun h140 => ?_)
                                          refine r_aload_n dL_law_777 0 rfl rfl ?_
                                          refine r_iload_n dL_law_778 3 rfl rfl ?_
                                          refine r_iconst (v := (4 : Int32)) dL_law_779 rfl ?_
                                          refine r_iadd dL_law_780 ?_
                                          refine r_sld rfl dL_law_781 (fun h141 => ?_)
                                          refine r_aload_n dL_law_782 0 rfl rfl ?_
                                          refine r_iload_n dL_law_783 3 rfl rfl ?_
                                          refine r_iconst (v := (5 : Int32)) dL_law_784 rfl ?_
                                          refine r_iadd dL_law_785 ?_
                                          refine r_sld rfl dL_law_786 (fun h142 => ?_)
                                          refine r_aload_n dL_law_787 0 rfl rfl ?_
                                          refine r_iload_n dL_law_788 3 rfl rfl ?_
                                          refine r_bipush (v := (6 : Int32)) dL_law_789 rfl ?_
                                          refine r_iadd dL_law_791 ?_
                                          refine r_sld rfl dL_law_792 (fun h143 => ?_)
                                          refine r_aload_n dL_law_793 0 rfl rfl ?_
                                          refine r_iload_n dL_law_794 3 rfl rfl ?_
                                          refine r_bipush (v := (7 : Int32)) dL_law_795 rfl ?_
                                          refine r_iadd dL_law_797 ?_
                                          refine r_sld rfl dL_law_798 (fun h144 => ?_)
                                          refine rVc_lB (as := [.int (xs (ix (v3 + (1 : Int32)))), .int (xs (ix (v3 + (2 : Int32)))), .int (xs (ix (v3 + (3 : Int32)))), .int (xs (ix (v3 + (4 : Int32)))), .int (xs (ix (v3 + (5 : Int32)))), .int (xs (ix (v3 + (6 : Int32)))), .int (xs (ix (v3 + (7 : Int32))))]) (st := []) dL_law_799 cl_L_90 (by decide) rfl rfl (m_X9_worth S T U V (xs (ix (v3 + (1 : Int32)))) (xs (ix (v3 + (2 : Int32)))) (xs (ix (v3 + (3 : Int32)))) (xs (ix (v3 + (4 : Int32)))) (xs (ix (v3 + (5 : Int32)))) (xs (ix (v3 + (6 : Int32)))) (xs (ix (v3 + (7 : Int32))))) (by decide) rfl (Nat.le_of_ble_eq_true rfl) (fun q145 _ => ?_)
                                          refine r_aload_n dL_law_802 2 rfl rfl ?_
                                          refine r_aload_n dL_law_803 0 rfl rfl ?_
                                          refine r_iload_n dL_law_804 3 rfl rfl ?_
                                          refine r_iconst (v := (1 : Int32)) dL_law_805 rfl ?_
                                          refine r_iadd dL_law_806 ?_
                                          refine r_sld rfl dL_law_807 (fun h146 => ?_)
                                          refine r_aload_n dL_law_808 0 rfl rfl ?_
                                          refine r_iload_n dL_law_809 3 rfl rfl ?_
                                          refine r_iconst (v := (2 : Int32)) dL_law_810 rfl ?_
                                          refine r_iadd dL_law_811 ?_
                                          refine r_sld rfl dL_law_812 (fun h147 => ?_)
                                          refine r_aload_n dL_law_813 0 rfl rfl ?_
                                          refine r_iload_n dL_law_814 3 rfl rfl ?_
                                          refine r_iconst (v := (3 : Int32)) dL_law_815 rfl ?_
                                          refine r_iadd dL_law_816 ?_
                                          refine r_sld rfl dL_law_817 (fun h148 => ?_)
                                          refine r_aload_n dL_law_818 0 rfl rfl ?_
                                          refine r_iload_n dL_law_819 3 rfl rfl ?_
                                          refine r_iconst (v := (4 : Int32)) dL_law_820 rfl ?_
                                          refine r_iadd dL_law_821 ?_
                                          refine r_sld rfl dL_law_822 (fun h149 => ?_)
                                          refine r_aload_n dL_law_823 0 rfl rfl ?_
                                          refine r_iload_n dL_law_824 3 rfl rfl ?_
                                          refine r_iconst (v := (5 : Int32)) dL_law_825 rfl ?_
                                          refine r_iadd dL_law_826 ?_
                                          refine r_sld rfl dL_law_827 (fun h150 => ?_)
                                          refine r_aload_n dL_law_828 0 rfl rfl ?_
                                          refine r_iload_n dL_law_829 3 rfl rfl ?_
                                          refine r_bipush (v := (6 : Int32)) dL_law_830 rfl ?_
                                          refine r_iadd dL_law_832 ?_
                                          refine r_sld rfl dL_law_833 (fun h151 => ?_)
                                          refine r_aload_n dL_law_834 0 rfl rfl ?_
                                          refine r_iload_n dL_law_835 3 rfl rfl ?_
                                          refine r_bipush (v := (7 : Int32)) dL_law_836 rfl ?_
                                          refine r_iadd dL_law_838 ?_
                                          refine r_sld rfl dL_law_839 (fun h152 => ?_)
                                          refine rVm_lT (as := [.int (xs (ix (v3 + (1 : Int32)))), .int (xs (ix (v3 + (2 : Int32)))), .int (xs (ix (v3 + (3 : Int32)))), .int (xs (ix (v3 + (4 : Int32)))), .int (xs (ix (v3 + (5 : Int32)))), .int (xs (ix (v3 + (6 : Int32)))), .int (xs (ix (v3 + (7 : Int32))))]) (st := [.long q145.1]) dL_law_840 cl_L_94 (by decide) rfl rfl (m_X10_worth q145.2.1 q145.2.2 U V (xs (ix (v3 + (1 : Int32)))) (xs (ix (v3 + (2 : Int32)))) (xs (ix (v3 + (3 : Int32)))) (xs (ix (v3 + (4 : Int32)))) (xs (ix (v3 + (5 : Int32)))) (xs (ix (v3 + (6 : Int32)))) (xs (ix (v3 + (7 : Int32))))) (by decide) rfl (Nat.le_of_ble_eq_true rfl) (fun q153 _ => ?_)
                                          refine r_lcmp_eq (tgt := 1341) dL_law_843 dL_law_844 (by decide) (fun h154 => ?_) (fun h154 => ?_)
                                          · refine r_iinc (v := v3 + (8 : Int32)) (L' := [(3, .int (v3 + (8 : Int32))), (0, .ref 1000), (1, .ref 0), (2, .ref 78)]) dL_law_1341 3 rfl rfl (by decide) rfl ?_
                                            refine r_goto (tgt := 18) dL_law_1344 (by decide) ?_
                                            exact r_pick [1, 2, 3, 0] rfl (ih (v3 + (8 : Int32)) q145.2.1 q145.2.2 U q153.2)
                                          · refine r_iconst (v := (0 : Int32)) dL_law_847 rfl ?_
                                            exact r_ireturn (ty := .boolean) dL_law_848 rfl rfl rfl
                                        · skip
                                          refine r_if (fun h155 => ?_) (fun h155 => ?_)
                                          · refine r_tableIn (off := 816) (tgt := 849) dL_law_33 18 h155 (by decide) (by decide) (by decide) (by decide) ?_
                                            refine r_aload_n dL_law_849 1 rfl rfl ?_
                                            refine rVc_iB (as := []) (st := []) dL_law_850 cl_L_95 (by decide) rfl rfl (m_X9_worst S T U V) (by decide) rfl (Nat.le_of_ble_eq_true rfl) (fun q156 _ => ?_)
                                            refine r_aload_n dL_law_853 2 rfl rfl ?_
                                            refine rV_i (as := []) (st := [.int q156.1]) dL_law_854 cl_L_98 (by decide) rfl rfl (m_X10_worst q156.2.1 q156.2.2 U V) (by decide) rfl (Nat.le_of_ble_eq_true rfl) (fun q157 _ => ?_)
                                            refine r_icmp_eq (tgt := 1341) dL_law_857 (by decide) (fun h158 => ?_) (fun h158 => ?_)
                                            · refine r_iinc (v := v3 + (8 : Int32)) (L' := [(3, .int (v3 + (8 : Int32))), (0, .ref 1000), (1, .ref 0), (2, .ref 78)]) dL_law_1341 3 rfl rfl (by decide) rfl ?_
                                              refine r_goto (tgt := 18) dL_law_1344 (by decide) ?_
                                              exact r_pick [1, 2, 3, 0] rfl (ih (v3 + (8 : Int32)) q156.2.1 q156.2.2 U V)
                                            · refine r_iconst (v := (0 : Int32)) dL_law_860 rfl ?_
                                              exact r_ireturn (ty := .boolean) dL_law_861 rfl rfl rfl
                                          · skip
                                            refine r_if (fun h159 => ?_) (fun h159 => ?_)
                                            · refine r_tableIn (off := 829) (tgt := 862) dL_law_33 19 h159 (by decide) (by decide) (by decide) (by decide) ?_
                                              refine r_aload_n dL_law_862 1 rfl rfl ?_
                                              refine r_aload_n dL_law_863 0 rfl rfl ?_
                                              refine r_iload_n dL_law_864 3 rfl rfl ?_
                                              refine r_iconst (v := (1 : Int32)) dL_law_865 rfl ?_
                                              refine r_iadd dL_law_866 ?_
                                              refine r_sld rfl dL_law_867 (fun h160 => ?_)
                                              refine r_aload_n dL_law_868 0 rfl rfl ?_
                                              refine r_iload_n dL_law_869 3 rfl rfl ?_
                                              refine r_iconst (v := (2 : Int32)) dL_law_870 rfl ?_
                                              refine r_iadd dL_law_871 ?_
                                              refine r_sld rfl dL_law_872 (fun h161 => ?_)
                                              refine rVc_iB (as := [.int (xs (ix (v3 + (1 : Int32)))), .int (xs (ix (v3 + (2 : Int32))))]) (st := []) dL_law_873 cl_L_99 (by decide) rfl rfl (m_X9_odds S T U V (xs (ix (v3 + (1 : Int32)))) (xs (ix (v3 + (2 : Int32))))) (by decide) rfl (Nat.le_of_ble_eq_true rfl) (fun q162 _ => ?_)
                                              refine r_aload_n dL_law_876 2 rfl rfl ?_
                                              refine r_aload_n dL_law_877 0 rfl rfl ?_
                                              refine r_iload_n dL_law_878 3 rfl rfl ?_
                                              refine r_iconst (v := (1 : Int32)) dL_law_879 rfl ?_
                                              refine r_iadd dL_law_880 ?_
                                              refine r_sld rfl dL_law_881 (fun h163 => ?_)
                                              refine r_aload_n dL_law_882 0 rfl rfl ?_
                                              refine r_iload_n dL_law_883 3 rfl rfl ?_
                                              refine r_iconst (v := (2 : Int32)) dL_law_884 rfl ?_
                                              refine r_iadd dL_law_885 ?_
                                              refine r_sld rfl dL_law_886 (fun h164 => ?_)
                                              refine rVm_iS (as := [.int (xs (ix (v3 + (1 : Int32)))), .int (xs (ix (v3 + (2 : Int32))))]) (st := [.int q162.1]) dL_law_887 cl_L_102 (by decide) rfl rfl (m_X10_odds q162.2.1 q162.2.2 U V (xs (ix (v3 + (1 : Int32)))) (xs (ix (v3 + (2 : Int32))))) (by decide) rfl (Nat.le_of_ble_eq_true rfl) (fun q165 _ => ?_)
                                              refine r_icmp_eq (tgt := 1341) dL_law_890 (by decide) (fun h166 => ?_) (fun h166 => ?_)
                                              · refine r_iinc (v := v3 + (8 : Int32)) (L' := [(3, .int (v3 + (8 : Int32))), (0, .ref 1000), (1, .ref 0), (2, .ref 78)]) dL_law_1341 3 rfl rfl (by decide) rfl ?_
                                                refine r_goto (tgt := 18) dL_law_1344 (by decide) ?_
                                                exact r_pick [1, 2, 3, 0] rfl (ih (v3 + (8 : Int32)) q162.2.1 q162.2.2 q165.2 V)
                                              · refine r_iconst (v := (0 : Int32)) dL_law_893 rfl ?_
                                                exact r_ireturn (ty := .boolean) dL_law_894 rfl rfl rfl
                                            · skip
                                              refine r_if (fun h167 => ?_) (fun h167 => ?_)
                                              · refine r_tableIn (off := 862) (tgt := 895) dL_law_33 20 h167 (by decide) (by decide) (by decide) (by decide) ?_
                                                refine r_aload_n dL_law_895 1 rfl rfl ?_
                                                refine r_aload_n dL_law_896 0 rfl rfl ?_
                                                refine r_iload_n dL_law_897 3 rfl rfl ?_
                                                refine r_iconst (v := (1 : Int32)) dL_law_898 rfl ?_
                                                refine r_iadd dL_law_899 ?_
                                                refine r_sld rfl dL_law_900 (fun h168 => ?_)
                                                refine r_aload_n dL_law_901 0 rfl rfl ?_
                                                refine r_iload_n dL_law_902 3 rfl rfl ?_
                                                refine r_iconst (v := (2 : Int32)) dL_law_903 rfl ?_
                                                refine r_iadd dL_law_904 ?_
                                                refine r_sld rfl dL_law_905 (fun h169 => ?_)
                                                refine r_aload_n dL_law_906 0 rfl rfl ?_
                                                refine r_iload_n dL_law_907 3 rfl rfl ?_
                                                refine r_iconst (v := (3 : Int32)) dL_law_908 rfl ?_
                                                refine r_iadd dL_law_909 ?_
                                                refine r_sld rfl dL_law_910 (fun h170 => ?_)
                                                refine r_aload_n dL_law_911 0 rfl rfl ?_
                                                refine r_iload_n dL_law_912 3 rfl rfl ?_
                                                refine r_iconst (v := (4 : Int32)) dL_law_913 rfl ?_
                                                refine r_iadd dL_law_914 ?_
                                                refine r_sld rfl dL_law_915 (fun h171 => ?_)
                                                refine rVc_iS (as := [.int (xs (ix (v3 + (1 : Int32)))), .int (xs (ix (v3 + (2 : Int32)))), .int (xs (ix (v3 + (3 : Int32)))), .int (xs (ix (v3 + (4 : Int32))))]) (st := []) dL_law_916 cl_L_103 (by decide) rfl rfl (m_X9_owns S T U V (xs (ix (v3 + (1 : Int32)))) (xs (ix (v3 + (2 : Int32)))) (xs (ix (v3 + (3 : Int32)))) (xs (ix (v3 + (4 : Int32))))) (by decide) rfl (Nat.le_of_ble_eq_true rfl) (fun q172 _ => ?_)
                                                refine r_aload_n dL_law_919 2 rfl rfl ?_
                                                refine r_aload_n dL_law_920 0 rfl rfl ?_
                                                refine r_iload_n dL_law_921 3 rfl rfl ?_
                                                refine r_iconst (v := (1 : Int32)) dL_law_922 rfl ?_
                                                refine r_iadd dL_law_923 ?_
                                                refine r_sld rfl dL_law_924 (fun h173 => ?_)
                                                refine r_aload_n dL_law_925 0 rfl rfl ?_
                                                refine r_iload_n dL_law_926 3 rfl rfl ?_
                                                refine r_iconst (v := (2 : Int32)) dL_law_927 rfl ?_
                                                refine r_iadd dL_law_928 ?_
                                                refine r_sld rfl dL_law_929 (fun h174 => ?_)
                                                refine r_aload_n dL_law_930 0 rfl rfl ?_
                                                refine r_iload_n dL_law_931 3 rfl rfl ?_
                                                refine r_iconst (v := (3 : Int32)) dL_law_932 rfl ?_
                                                refine r_iadd dL_law_933 ?_
                                                refine r_sld rfl dL_law_934 (fun h175 => ?_)
                                                refine r_aload_n dL_law_935 0 rfl rfl ?_
                                                refine r_iload_n dL_law_936 3 rfl rfl ?_
                                                refine r_iconst (v := (4 : Int32)) dL_law_937 rfl ?_
                                                refine r_iadd dL_law_938 ?_
                                                refine r_sld rfl dL_law_939 (fun h176 => ?_)
                                                refine rVm_iS (as := [.int (xs (ix (v3 + (1 : Int32)))), .int (xs (ix (v3 + (2 : Int32)))), .int (xs (ix (v3 + (3 : Int32)))), .int (xs (ix (v3 + (4 : Int32))))]) (st := [.int q172.1]) dL_law_940 cl_L_106 (by decide) rfl rfl (m_X10_owns q172.2 T U V (xs (ix (v3 + (1 : Int32)))) (xs (ix (v3 + (2 : Int32)))) (xs (ix (v3 + (3 : Int32)))) (xs (ix (v3 + (4 : Int32))))) (by decide) rfl (Nat.le_of_ble_eq_true rfl) (fun q177 _ => ?_)
                                                refine r_icmp_eq (tgt := 1341) dL_law_943 (by decide) (fun h178 => ?_) (fun h178 => ?_)
                                                · refine r_iinc (v := v3 + (8 : Int32)) (L' := [(3, .int (v3 + (8 : Int32))), (0, .ref 1000), (1, .ref 0), (2, .ref 78)]) dL_law_1341 3 rfl rfl (by decide) rfl ?_
                                                  refine r_goto (tgt := 18) dL_law_1344 (by decide) ?_
                                                  exact r_pick [1, 2, 3, 0] rfl (ih (v3 + (8 : Int32)) q172.2 T q177.2 V)
                                                · refine r_iconst (v := (0 : Int32)) dL_law_946 rfl ?_
                                                  exact r_ireturn (ty := .boolean) dL_law_947 rfl rfl rfl
                                              · skip
                                                refine r_if (fun h179 => ?_) (fun h179 => ?_)
                                                · refine r_tableIn (off := 915) (tgt := 948) dL_law_33 21 h179 (by decide) (by decide) (by decide) (by decide) ?_
                                                  refine r_aload_n dL_law_948 1 rfl rfl ?_
                                                  refine r_aload_n dL_law_949 0 rfl rfl ?_
                                                  refine r_iload_n dL_law_950 3 rfl rfl ?_
                                                  refine r_iconst (v := (1 : Int32)) dL_law_951 rfl ?_
                                                  refine r_iadd dL_law_952 ?_
                                                  refine r_sld rfl dL_law_953 (fun h180 => ?_)
                                                  refine r_aload_n dL_law_954 0 rfl rfl ?_
                                                  refine r_iload_n dL_law_955 3 rfl rfl ?_
                                                  refine r_iconst (v := (2 : Int32)) dL_law_956 rfl ?_
                                                  refine r_iadd dL_law_957 ?_
                                                  refine r_sld rfl dL_law_958 (fun h181 => ?_)
                                                  refine rVc_iS (as := [.int (xs (ix (v3 + (1 : Int32)))), .int (xs (ix (v3 + (2 : Int32))))]) (st := []) dL_law_959 cl_L_107 (by decide) rfl rfl (m_X9_may S T U V (xs (ix (v3 + (1 : Int32)))) (xs (ix (v3 + (2 : Int32))))) (by decide) rfl (Nat.le_of_ble_eq_true rfl) (fun q182 _ => ?_)
                                                  refine r_aload_n dL_law_962 2 rfl rfl ?_
                                                  refine r_aload_n dL_law_963 0 rfl rfl ?_
                                                  refine r_iload_n dL_law_964 3 rfl rfl ?_
                                                  refine r_iconst (v := (1 : Int32)) dL_law_965 rfl ?_
                                                  refine r_iadd dL_law_966 ?_
                                                  refine r_sld rfl dL_law_967 (fun h183 => ?_)
                                                  refine r_aload_n dL_law_968 0 rfl rfl ?_
                                                  refine r_iload_n dL_law_969 3 rfl rfl ?_
                                                  refine r_iconst (v := (2 : Int32)) dL_law_970 rfl ?_
                                                  refine r_iadd dL_law_971 ?_
                                                  refine r_sld rfl dL_law_972 (fun h184 => ?_)
                                                  refine rVm_iS (as := [.int (xs (ix (v3 + (1 : Int32)))), .int (xs (ix (v3 + (2 : Int32))))]) (st := [.int q182.1]) dL_law_973 cl_L_110 (by decide) rfl rfl (m_X10_may q182.2 T U V (xs (ix (v3 + (1 : Int32)))) (xs (ix (v3 + (2 : Int32))))) (by decide) rfl (Nat.le_of_ble_eq_true rfl) (fun q185 _ => ?_)
                                                  refine r_icmp_eq (tgt := 1341) dL_law_976 (by decide) (fun h186 => ?_) (fun h186 => ?_)
                                                  · refine r_iinc (v := v3 + (8 : Int32)) (L' := [(3, .int (v3 + (8 : Int32))), (0, .ref 1000), (1, .ref 0), (2, .ref 78)]) dL_law_1341 3 rfl rfl (by decide) rfl ?_
                                                    refine r_goto (tgt := 18) dL_law_1344 (by decide) ?_
                                                    exact r_pick [1, 2, 3, 0] rfl (ih (v3 + (8 : Int32)) q182.2 T q185.2 V)
                                                  · refine r_iconst (v := (0 : Int32)) dL_law_979 rfl ?_
                                                    exact r_ireturn (ty := .boolean) dL_law_980 rfl rfl rfl
                                                · skip
                                                  refine r_if (fun h187 => ?_) (fun h187 => ?_)
                                                  · refine r_tableIn (off := 948) (tgt := 981) dL_law_33 22 h187 (by decide) (by decide) (by decide) (by decide) ?_
                                                    refine r_aload_n dL_law_981 1 rfl rfl ?_
                                                    refine r_aload_n dL_law_982 0 rfl rfl ?_
                                                    refine r_iload_n dL_law_983 3 rfl rfl ?_
                                                    refine r_iconst (v := (1 : Int32)) dL_law_984 rfl ?_
                                                    refine r_iadd dL_law_985 ?_
                                                    refine r_sld rfl dL_law_986 (fun h188 => ?_)
                                                    refine r_aload_n dL_law_987 0 rfl rfl ?_
                                                    refine r_iload_n dL_law_988 3 rfl rfl ?_
                                                    refine r_iconst (v := (2 : Int32)) dL_law_989 rfl ?_
                                                    refine r_iadd dL_law_990 ?_
                                                    refine r_sld rfl dL_law_991 (fun h189 => ?_)
                                                    refine rVc_iS (as := [.int (xs (ix (v3 + (1 : Int32)))), .int (xs (ix (v3 + (2 : Int32))))]) (st := []) dL_law_992 cl_L_111 (by decide) rfl rfl (m_X9_bind S T U V (xs (ix (v3 + (1 : Int32)))) (xs (ix (v3 + (2 : Int32))))) (by decide) rfl (Nat.le_of_ble_eq_true rfl) (fun q190 _ => ?_)
                                                    refine r_aload_n dL_law_995 2 rfl rfl ?_
                                                    refine r_aload_n dL_law_996 0 rfl rfl ?_
                                                    refine r_iload_n dL_law_997 3 rfl rfl ?_
                                                    refine r_iconst (v := (1 : Int32)) dL_law_998 rfl ?_
                                                    refine r_iadd dL_law_999 ?_
                                                    refine r_sld rfl dL_law_1000 (fun h191 => ?_)
                                                    refine r_aload_n dL_law_1001 0 rfl rfl ?_
                                                    refine r_iload_n dL_law_1002 3 rfl rfl ?_
                                                    refine r_iconst (v := (2 : Int32)) dL_law_1003 rfl ?_
                                                    refine r_iadd dL_law_1004 ?_
                                                    refine r_sld rfl dL_law_1005 (fun h192 => ?_)
                                                    refine rVm_iS (as := [.int (xs (ix (v3 + (1 : Int32)))), .int (xs (ix (v3 + (2 : Int32))))]) (st := [.int q190.1]) dL_law_1006 cl_L_114 (by decide) rfl rfl (m_X10_bind q190.2 T U V (xs (ix (v3 + (1 : Int32)))) (xs (ix (v3 + (2 : Int32))))) (by decide) rfl (Nat.le_of_ble_eq_true rfl) (fun q193 _ => ?_)
                                                    refine r_icmp_eq (tgt := 1341) dL_law_1009 (by decide) (fun h194 => ?_) (fun h194 => ?_)
                                                    · refine r_iinc (v := v3 + (8 : Int32)) (L' := [(3, .int (v3 + (8 : Int32))), (0, .ref 1000), (1, .ref 0), (2, .ref 78)]) dL_law_1341 3 rfl rfl (by decide) rfl ?_
                                                      refine r_goto (tgt := 18) dL_law_1344 (by decide) ?_
                                                      exact r_pick [1, 2, 3, 0] rfl (ih (v3 + (8 : Int32)) q190.2 T q193.2 V)
                                                    · refine r_iconst (v := (0 : Int32)) dL_law_1012 rfl ?_
                                                      exact r_ireturn (ty := .boolean) dL_law_1013 rfl rfl rfl
                                                  · skip
                                                    refine r_if (fun h195 => ?_) (fun h195 => ?_)
                                                    · refine r_tableIn (off := 981) (tgt := 1014) dL_law_33 23 h195 (by decide) (by decide) (by decide) (by decide) ?_
                                                      refine r_aload_n dL_law_1014 1 rfl rfl ?_
                                                      refine rVc_lT (as := []) (st := []) dL_law_1015 cl_L_115 (by decide) rfl rfl (m_X9_ways S T U V) (by decide) rfl (Nat.le_of_ble_eq_true rfl) (fun q196 _ => ?_)
                                                      refine r_aload_n dL_law_1018 2 rfl rfl ?_
                                                      refine rVm_lT (as := []) (st := [.long q196.1]) dL_law_1019 cl_L_119 (by decide) rfl rfl (m_X10_ways S q196.2 U V) (by decide) rfl (Nat.le_of_ble_eq_true rfl) (fun q197 _ => ?_)
                                                      refine r_lcmp_eq (tgt := 1341) dL_law_1022 dL_law_1023 (by decide) (fun h198 => ?_) (fun h198 => ?_)
                                                      · refine r_iinc (v := v3 + (8 : Int32)) (L' := [(3, .int (v3 + (8 : Int32))), (0, .ref 1000), (1, .ref 0), (2, .ref 78)]) dL_law_1341 3 rfl rfl (by decide) rfl ?_
                                                        refine r_goto (tgt := 18) dL_law_1344 (by decide) ?_
                                                        exact r_pick [1, 2, 3, 0] rfl (ih (v3 + (8 : Int32)) S q196.2 U q197.2)
                                                      · refine r_iconst (v := (0 : Int32)) dL_law_1026 rfl ?_
                                                        exact r_ireturn (ty := .boolean) dL_law_1027 rfl rfl rfl
                                                    · skip
                                                      refine r_if (fun h199 => ?_) (fun h199 => ?_)
                                                      · refine r_tableIn (off := 995) (tgt := 1028) dL_law_33 24 h199 (by decide) (by decide) (by decide) (by decide) ?_
                                                        refine r_aload_n dL_law_1028 1 rfl rfl ?_
                                                        refine r_aload_n dL_law_1029 0 rfl rfl ?_
                                                        refine r_iload_n dL_law_1030 3 rfl rfl ?_
                                                        refine r_iconst (v := (1 : Int32)) dL_law_1031 rfl ?_
                                                        refine r_iadd dL_law_1032 ?_
                                                        refine r_sld rfl dL_law_1033 (fun h200 => ?_)
                                                        refine rVc_iT (as := [.int (xs (ix (v3 + (1 : Int32))))]) (st := []) dL_law_1034 cl_L_120 (by decide) rfl rfl (m_X9_whose S T U V (xs (ix (v3 + (1 : Int32))))) (by decide) rfl (Nat.le_of_ble_eq_true rfl) (fun q201 _ => ?_)
                                                        refine r_aload_n dL_law_1037 2 rfl rfl ?_
                                                        refine r_aload_n dL_law_1038 0 rfl rfl ?_
                                                        refine r_iload_n dL_law_1039 3 rfl rfl ?_
                                                        refine r_iconst (v := (1 : Int32)) dL_law_1040 rfl ?_
                                                        refine r_iadd dL_law_1041 ?_
                                                        refine r_sld rfl dL_law_1042 (fun h202 => ?_)
                                                        refine rVm_iT (as := [.int (xs (ix (v3 + (1 : Int32))))]) (st := [.int q201.1]) dL_law_1043 cl_L_123 (by decide) rfl rfl (m_X10_whose S q201.2 U V (xs (ix (v3 + (1 : Int32))))) (by decide) rfl (Nat.le_of_ble_eq_true rfl) (fun q203 _ => ?_)
                                                        refine r_icmp_eq (tgt := 1341) dL_law_1046 (by decide) (fun h204 => ?_) (fun h204 => ?_)
                                                        · refine r_iinc (v := v3 + (8 : Int32)) (L' := [(3, .int (v3 + (8 : Int32))), (0, .ref 1000), (1, .ref 0), (2, .ref 78)]) dL_law_1341 3 rfl rfl (by decide) rfl ?_
                                                          refine r_goto (tgt := 18) dL_law_1344 (by decide) ?_
                                                          exact r_pick [1, 2, 3, 0] rfl (ih (v3 + (8 : Int32)) S q201.2 U q203.2)
                                                        · refine r_iconst (v := (0 : Int32)) dL_law_1049 rfl ?_
                                                          exact r_ireturn (ty := .boolean) dL_law_1050 rfl rfl rfl
                                                      · skip
                                                        refine r_if (fun h205 => ?_) (fun h205 => ?_)
                                                        · refine r_tableIn (off := 1018) (tgt := 1051) dL_law_33 25 h205 (by decide) (by decide) (by decide) (by decide) ?_
                                                          refine r_aload_n dL_law_1051 1 rfl rfl ?_
                                                          refine r_aload_n dL_law_1052 0 rfl rfl ?_
                                                          refine r_iload_n dL_law_1053 3 rfl rfl ?_
                                                          refine r_iconst (v := (1 : Int32)) dL_law_1054 rfl ?_
                                                          refine r_iadd dL_law_1055 ?_
                                                          refine r_sld rfl dL_law_1056 (fun h206 => ?_)
                                                          refine rV_i (as := [.int (xs (ix (v3 + (1 : Int32))))]) (st := []) dL_law_1057 cl_L_124 (by decide) rfl rfl (m_X9_seldom S T U V (xs (ix (v3 + (1 : Int32))))) (by decide) rfl (Nat.le_of_ble_eq_true rfl) (fun q207 _ => ?_)
                                                          refine r_aload_n dL_law_1060 2 rfl rfl ?_
                                                          refine r_aload_n dL_law_1061 0 rfl rfl ?_
                                                          refine r_iload_n dL_law_1062 3 rfl rfl ?_
                                                          refine r_iconst (v := (1 : Int32)) dL_law_1063 rfl ?_
                                                          refine r_iadd dL_law_1064 ?_
                                                          refine r_sld rfl dL_law_1065 (fun h208 => ?_)
                                                          refine rV_i (as := [.int (xs (ix (v3 + (1 : Int32))))]) (st := [.int q207]) dL_law_1066 cl_L_127 (by decide) rfl rfl (m_X10_seldom S T U V (xs (ix (v3 + (1 : Int32))))) (by decide) rfl (Nat.le_of_ble_eq_true rfl) (fun q209 _ => ?_)
                                                          refine r_icmp_eq (tgt := 1341) dL_law_1069 (by decide) (fun h210 => ?_) (fun h210 => ?_)
                                                          · refine r_iinc (v := v3 + (8 : Int32)) (L' := [(3, .int (v3 + (8 : Int32))), (0, .ref 1000), (1, .ref 0), (2, .ref 78)]) dL_law_1341 3 rfl rfl (by decide) rfl ?_
                                                            refine r_goto (tgt := 18) dL_law_1344 (by decide) ?_
                                                            exact r_pick [1, 2, 3, 0] rfl (ih (v3 + (8 : Int32)) S T U V)
                                                          · refine r_iconst (v := (0 : Int32)) dL_law_1072 rfl ?_
                                                            exact r_ireturn (ty := .boolean) dL_law_1073 rfl rfl rfl
                                                        · skip
                                                          refine r_if (fun h211 => ?_) (fun h211 => ?_)
                                                          · refine r_tableIn (off := 1041) (tgt := 1074) dL_law_33 26 h211 (by decide) (by decide) (by decide) (by decide) ?_
                                                            refine r_aload_n dL_law_1074 1 rfl rfl ?_
                                                            refine r_aload_n dL_law_1075 0 rfl rfl ?_
                                                            refine r_iload_n dL_law_1076 3 rfl rfl ?_
                                                            refine r_iconst (v := (1 : Int32)) dL_law_1077 rfl ?_
                                                            refine r_iadd dL_law_1078 ?_
                                                            refine r_sld rfl dL_law_1079 (fun h212 => ?_)
                                                            refine r_aload_n dL_law_1080 0 rfl rfl ?_
                                                            refine r_iload_n dL_law_1081 3 rfl rfl ?_
                                                            refine r_iconst (v := (2 : Int32)) dL_law_1082 rfl ?_
                                                            refine r_iadd dL_law_1083 ?_
                                                            refine r_sld rfl dL_law_1084 (fun h213 => ?_)
                                                            refine rV_i (as := [.int (xs (ix (v3 + (1 : Int32)))), .int (xs (ix (v3 + (2 : Int32))))]) (st := []) dL_law_1085 cl_L_128 (by decide) rfl rfl (m_X9_lacks S T U V (xs (ix (v3 + (1 : Int32)))) (xs (ix (v3 + (2 : Int32))))) (by decide) rfl (Nat.le_of_ble_eq_true rfl) (fun q214 _ => ?_)
                                                            refine r_aload_n dL_law_1088 2 rfl rfl ?_
                                                            refine r_aload_n dL_law_1089 0 rfl rfl ?_
                                                            refine r_iload_n dL_law_1090 3 rfl rfl ?_
                                                            refine r_iconst (v := (1 : Int32)) dL_law_1091 rfl ?_
                                                            refine r_iadd dL_law_1092 ?_
                                                            refine r_sld rfl dL_law_1093 (fun h215 => ?_)
                                                            refine r_aload_n dL_law_1094 0 rfl rfl ?_
                                                            refine r_iload_n dL_law_1095 3 rfl rfl ?_
                                                            refine r_iconst (v := (2 : Int32)) dL_law_1096 rfl ?_
                                                            refine r_iadd dL_law_1097 ?_
                                                            refine r_sld rfl dL_law_1098 (fun h216 => ?_)
                                                            refine rV_i (as := [.int (xs (ix (v3 + (1 : Int32)))), .int (xs (ix (v3 + (2 : Int32))))]) (st := [.int q214]) dL_law_1099 cl_L_131 (by decide) rfl rfl (m_X10_lacks S T U V (xs (ix (v3 + (1 : Int32)))) (xs (ix (v3 + (2 : Int32))))) (by decide) rfl (Nat.le_of_ble_eq_true rfl) (fun q217 _ => ?_)
                                                            refine r_icmp_eq (tgt := 1341) dL_law_1102 (by decide) (fun h218 => ?_) (fun h218 => ?_)
                                                            · refine r_iinc (v := v3 + (8 : Int32)) (L' := [(3, .int (v3 + (8 : Int32))), (0, .ref 1000), (1, .ref 0), (2, .ref 78)]) dL_law_1341 3 rfl rfl (by decide) rfl ?_
                                                              refine r_goto (tgt := 18) dL_law_1344 (by decide) ?_
                                                              exact r_pick [1, 2, 3, 0] rfl (ih (v3 + (8 : Int32)) S T U V)
                                                            · refine r_iconst (v := (0 : Int32)) dL_law_1105 rfl ?_
                                                              exact r_ireturn (ty := .boolean) dL_law_1106 rfl rfl rfl
                                                          · skip
                                                            refine r_if (fun h219 => ?_) (fun h219 => ?_)
                                                            · refine r_tableIn (off := 1074) (tgt := 1107) dL_law_33 27 h219 (by decide) (by decide) (by decide) (by decide) ?_
                                                              refine r_aload_n dL_law_1107 1 rfl rfl ?_
                                                              refine r_aload_n dL_law_1108 0 rfl rfl ?_
                                                              refine r_iload_n dL_law_1109 3 rfl rfl ?_
                                                              refine r_iconst (v := (1 : Int32)) dL_law_1110 rfl ?_
                                                              refine r_iadd dL_law_1111 ?_
                                                              refine r_sld rfl dL_law_1112 (fun h220 => ?_)
                                                              refine r_aload_n dL_law_1113 0 rfl rfl ?_
                                                              refine r_iload_n dL_law_1114 3 rfl rfl ?_
                                                              refine r_iconst (v := (2 : Int32)) dL_law_1115 rfl ?_
                                                              refine r_iadd dL_law_1116 ?_
                                                              refine r_sld rfl dL_law_1117 (fun h221 => ?_)
                                                              refine rVc_iS (as := [.int (xs (ix (v3 + (1 : Int32)))), .int (xs (ix (v3 + (2 : Int32))))]) (st := []) dL_law_1118 cl_L_132 (by decide) rfl rfl (m_X9_wish S T U V (xs (ix (v3 + (1 : Int32)))) (xs (ix (v3 + (2 : Int32))))) (by decide) rfl (Nat.le_of_ble_eq_true rfl) (fun q222 _ => ?_)
                                                              refine r_aload_n dL_law_1121 2 rfl rfl ?_
                                                              refine r_aload_n dL_law_1122 0 rfl rfl ?_
                                                              refine r_iload_n dL_law_1123 3 rfl rfl ?_
                                                              refine r_iconst (v := (1 : Int32)) dL_law_1124 rfl ?_
                                                              refine r_iadd dL_law_1125 ?_
                                                              refine r_sld rfl dL_law_1126 (fun h223 => ?_)
                                                              refine r_aload_n dL_law_1127 0 rfl rfl ?_
                                                              refine r_iload_n dL_law_1128 3 rfl rfl ?_
                                                              refine r_iconst (v := (2 : Int32)) dL_law_1129 rfl ?_
                                                              refine r_iadd dL_law_1130 ?_
                                                              refine r_sld rfl dL_law_1131 (fun h224 => ?_)
                                                              refine rVm_iS (as := [.int (xs (ix (v3 + (1 : Int32)))), .int (xs (ix (v3 + (2 : Int32))))]) (st := [.int q222.1]) dL_law_1132 cl_L_135 (by decide) rfl rfl (m_X10_wish q222.2 T U V (xs (ix (v3 + (1 : Int32)))) (xs (ix (v3 + (2 : Int32))))) (by decide) rfl (Nat.le_of_ble_eq_true rfl) (fun q225 _ => ?_)
                                                              refine r_icmp_eq (tgt := 1341) dL_law_1135 (by decide) (fun h226 => ?_) (fun h226 => ?_)
                                                              · refine r_iinc (v := v3 + (8 : Int32)) (L' := [(3, .int (v3 + (8 : Int32))), (0, .ref 1000), (1, .ref 0), (2, .ref 78)]) dL_law_1341 3 rfl rfl (by decide) rfl ?_
                                                                refine r_goto (tgt := 18) dL_law_1344 (by decide) ?_
                                                                exact r_pick [1, 2, 3, 0] rfl (ih (v3 + (8 : Int32)) q222.2 T q225.2 V)
                                                              · refine r_iconst (v := (0 : Int32)) dL_law_1138 rfl ?_
                                                                exact r_ireturn (ty := .boolean) dL_law_1139 rfl rfl rfl
                                                            · skip
                                                              refine r_if (fun h227 => ?_) (fun h227 => ?_)
                                                              · refine r_tableIn (off := 1107) (tgt := 1140) dL_law_33 28 h227 (by decide) (by decide) (by decide) (by decide) ?_
                                                                refine r_aload_n dL_law_1140 1 rfl rfl ?_
                                                                refine rV_i (as := []) (st := []) dL_law_1141 cl_L_136 (by decide) rfl rfl (m_X9_buy S T U V) (by decide) rfl (Nat.le_of_ble_eq_true rfl) (fun q228 _ => ?_)
                                                                refine r_aload_n dL_law_1144 2 rfl rfl ?_
                                                                refine rV_i (as := []) (st := [.int q228]) dL_law_1145 cl_L_139 (by decide) rfl rfl (m_X10_buy S T U V) (by decide) rfl (Nat.le_of_ble_eq_true rfl) (fun q229 _ => ?_)
                                                                refine r_icmp_eq (tgt := 1341) dL_law_1148 (by decide) (fun h230 => ?_) (fun h230 => ?_)
                                                                · refine r_iinc (v := v3 + (8 : Int32)) (L' := [(3, .int (v3 + (8 : Int32))), (0, .ref 1000), (1, .ref 0), (2, .ref 78)]) dL_law_1341 3 rfl rfl (by decide) rfl ?_
                                                                  refine r_goto (tgt := 18) dL_law_1344 (by decide) ?_
                                                                  exact r_pick [1, 2, 3, 0] rfl (ih (v3 + (8 : Int32)) S T U V)
                                                                · refine r_iconst (v := (0 : Int32)) dL_law_1151 rfl ?_
                                                                  exact r_ireturn (ty := .boolean) dL_law_1152 rfl rfl rfl
                                                              · skip
                                                                refine r_if (fun h231 => ?_) (fun h231 => ?_)
                                                                · refine r_tableIn (off := 1120) (tgt := 1153) dL_law_33 29 h231 (by decide) (by decide) (by decide) (by decide) ?_
                                                                  refine r_aload_n dL_law_1153 1 rfl rfl ?_
                                                                  refine r_aload_n dL_law_1154 0 rfl rfl ?_
                                                                  refine r_iload_n dL_law_1155 3 rfl rfl ?_
                                                                  refine r_iconst (v := (1 : Int32)) dL_law_1156 rfl ?_
                                                                  refine r_iadd dL_law_1157 ?_
                                                                  refine r_sld rfl dL_law_1158 (fun h232 => ?_)
                                                                  refine r_aload_n dL_law_1159 0 rfl rfl ?_
                                                                  refine r_iload_n dL_law_1160 3 rfl rfl ?_
                                                                  refine r_iconst (v := (2 : Int32)) dL_law_1161 rfl ?_
                                                                  refine r_iadd dL_law_1162 ?_
                                                                  refine r_sld rfl dL_law_1163 (fun h233 => ?_)
                                                                  refine r_aload_n dL_law_1164 0 rfl rfl ?_
                                                                  refine r_iload_n dL_law_1165 3 rfl rfl ?_
                                                                  refine r_iconst (v := (3 : Int32)) dL_law_1166 rfl ?_
                                                                  refine r_iadd dL_law_1167 ?_
                                                                  refine r_sld rfl dL_law_1168 (fun h234 => ?_)
                                                                  refine rVc_iB (as := [.int (xs (ix (v3 + (1 : Int32)))), .int (xs (ix (v3 + (2 : Int32)))), .int (xs (ix (v3 + (3 : Int32))))]) (st := []) dL_law_1169 cl_L_140 (by decide) rfl rfl (m_X9_marks S T U V (xs (ix (v3 + (1 : Int32)))) (xs (ix (v3 + (2 : Int32)))) (xs (ix (v3 + (3 : Int32))))) (by decide) rfl (Nat.le_of_ble_eq_true rfl) (fun q235 _ => ?_)
                                                                  refine r_aload_n dL_law_1172 2 rfl rfl ?_
                                                                  refine r_aload_n dL_law_1173 0 rfl rfl ?_
                                                                  refine r_iload_n dL_law_1174 3 rfl rfl ?_
                                                                  refine r_iconst (v := (1 : Int32)) dL_law_1175 rfl ?_
                                                                  refine r_iadd dL_law_1176 ?_
                                                                  refine r_sld rfl dL_law_1177 (fun h236 => ?_)
                                                                  refine r_aload_n dL_law_1178 0 rfl rfl ?_
                                                                  refine r_iload_n dL_law_1179 3 rfl rfl ?_
                                                                  refine r_iconst (v := (2 : Int32)) dL_law_1180 rfl ?_
                                                                  refine r_iadd dL_law_1181 ?_
                                                                  refine r_sld rfl dL_law_1182 (fun h237 => ?_)
                                                                  refine r_aload_n dL_law_1183 0 rfl rfl ?_
                                                                  refine r_iload_n dL_law_1184 3 rfl rfl ?_
                                                                  refine r_iconst (v := (3 : Int32)) dL_law_1185 rfl ?_
                                                                  refine r_iadd dL_law_1186 ?_
                                                                  refine r_sld rfl dL_law_1187 (fun h238 => ?_)
                                                                  refine rVm_iS (as := [.int (xs (ix (v3 + (1 : Int32)))), .int (xs (ix (v3 + (2 : Int32)))), .int (xs (ix (v3 + (3 : Int32))))]) (st := [.int q235.1]) dL_law_1188 cl_L_143 (by decide) rfl rfl (m_X10_marks q235.2.1 q235.2.2 U V (xs (ix (v3 + (1 : Int32)))) (xs (ix (v3 + (2 : Int32)))) (xs (ix (v3 + (3 : Int32))))) (by decide) rfl (Nat.le_of_ble_eq_true rfl) (fun q239 _ => ?_)
                                                                  refine r_icmp_eq (tgt := 1341) dL_law_1191 (by decide) (fun h240 => ?_) (fun h240 => ?_)
                                                                  · refine r_iinc (v := v3 + (8 : Int32)) (L' := [(3, .int (v3 + (8 : Int32))), (0, .ref 1000), (1, .ref 0), (2, .ref 78)]) dL_law_1341 3 rfl rfl (by decide) rfl ?_
                                                                    refine r_goto (tgt := 18) dL_law_1344 (by decide) ?_
                                                                    exact r_pick [1, 2, 3, 0] rfl (ih (v3 + (8 : Int32)) q235.2.1 q235.2.2 q239.2 V)
                                                                  · refine r_iconst (v := (0 : Int32)) dL_law_1194 rfl ?_
                                                                    exact r_ireturn (ty := .boolean) dL_law_1195 rfl rfl rfl
                                                                · skip
                                                                  refine r_if (fun h241 => ?_) (fun h241 => ?_)
                                                                  · refine r_tableIn (off := 1163) (tgt := 1196) dL_law_33 30 h241 (by decide) (by decide) (by decide) (by decide) ?_
                                                                    refine r_aload_n dL_law_1196 1 rfl rfl ?_
                                                                    refine rVc_iS (as := []) (st := []) dL_law_1197 cl_L_144 (by decide) rfl rfl (m_X9_image S T U V) (by decide) rfl (Nat.le_of_ble_eq_true rfl) (fun q242 _ => ?_)
                                                                    refine r_aload_n dL_law_1200 2 rfl rfl ?_
                                                                    refine rVm_iS (as := []) (st := [.int q242.1]) dL_law_1201 cl_L_147 (by decide) rfl rfl (m_X10_image q242.2 T U V) (by decide) rfl (Nat.le_of_ble_eq_true rfl) (fun q243 _ => ?_)
                                                                    refine r_icmp_eq (tgt := 1341) dL_law_1204 (by decide) (fun h244 => ?_) (fun h244 => ?_)
                                                                    · refine r_iinc (v := v3 + (8 : Int32)) (L' := [(3, .int (v3 + (8 : Int32))), (0, .ref 1000), (1, .ref 0), (2, .ref 78)]) dL_law_1341 3 rfl rfl (by decide) rfl ?_
                                                                      refine r_goto (tgt := 18) dL_law_1344 (by decide) ?_
                                                                      exact r_pick [1, 2, 3, 0] rfl (ih (v3 + (8 : Int32)) q242.2 T q243.2 V)
                                                                    · refine r_iconst (v := (0 : Int32)) dL_law_1207 rfl ?_
                                                                      exact r_ireturn (ty := .boolean) dL_law_1208 rfl rfl rfl
                                                                  · skip
                                                                    refine r_if (fun h245 => ?_) (fun h245 => ?_)
                                                                    · refine r_tableIn (off := 1176) (tgt := 1209) dL_law_33 31 h245 (by decide) (by decide) (by decide) (by decide) ?_
                                                                      refine r_aload_n dL_law_1209 1 rfl rfl ?_
                                                                      refine rVc_iS (as := []) (st := []) dL_law_1210 cl_L_148 (by decide) rfl rfl (m_X9_restore S T U V) (by decide) rfl (Nat.le_of_ble_eq_true rfl) (fun q246 _ => ?_)
                                                                      refine r_aload_n dL_law_1213 2 rfl rfl ?_
                                                                      refine rVm_iS (as := []) (st := [.int q246.1]) dL_law_1214 cl_L_151 (by decide) rfl rfl (m_X10_restore q246.2 T U V) (by decide) rfl (Nat.le_of_ble_eq_true rfl) (fun q247 _ => ?_)
                                                                      refine r_icmp_eq (tgt := 1341) dL_law_1217 (by decide) (fun h248 => ?_) (fun h248 => ?_)
                                                                      · refine r_iinc (v := v3 + (8 : Int32)) (L' := [(3, .int (v3 + (8 : Int32))), (0, .ref 1000), (1, .ref 0), (2, .ref 78)]) dL_law_1341 3 rfl rfl (by decide) rfl ?_
                                                                        refine r_goto (tgt := 18) dL_law_1344 (by decide) ?_
                                                                        exact r_pick [1, 2, 3, 0] rfl (ih (v3 + (8 : Int32)) q246.2 T q247.2 V)
                                                                      · refine r_iconst (v := (0 : Int32)) dL_law_1220 rfl ?_
                                                                        exact r_ireturn (ty := .boolean) dL_law_1221 rfl rfl rfl
                                                                    · skip
                                                                      refine r_if (fun h249 => ?_) (fun h249 => ?_)
                                                                      · refine r_tableIn (off := 1189) (tgt := 1222) dL_law_33 32 h249 (by decide) (by decide) (by decide) (by decide) ?_
                                                                        refine r_aload_n dL_law_1222 1 rfl rfl ?_
                                                                        refine r_aload_n dL_law_1223 0 rfl rfl ?_
                                                                        refine r_iload_n dL_law_1224 3 rfl rfl ?_
                                                                        refine r_iconst (v := (1 : Int32)) dL_law_1225 rfl ?_
                                                                        refine r_iadd dL_law_1226 ?_
                                                                        refine r_sld rfl dL_law_1227 (fun h250 => ?_)
                                                                        refine r_aload_n dL_law_1228 0 rfl rfl ?_
                                                                        refine r_iload_n dL_law_1229 3 rfl rfl ?_
                                                                        refine r_iconst (v := (2 : Int32)) dL_law_1230 rfl ?_
                                                                        refine r_iadd dL_law_1231 ?_
                                                                        refine r_sld rfl dL_law_1232 (fun h251 => ?_)
                                                                        refine r_aload_n dL_law_1233 0 rfl rfl ?_
                                                                        refine r_iload_n dL_law_1234 3 rfl rfl ?_
                                                                        refine r_iconst (v := (3 : Int32)) dL_law_1235 rfl ?_
                                                                        refine r_iadd dL_law_1236 ?_
                                                                        refine r_sld rfl dL_law_1237 (fun h252 => ?_)
                                                                        refine rVc_iS (as := [.int (xs (ix (v3 + (1 : Int32)))), .int (xs (ix (v3 + (2 : Int32)))), .int (xs (ix (v3 + (3 : Int32))))]) (st := []) dL_law_1238 cl_L_152 (by decide) rfl rfl (m_X9_sheet S T U V (xs (ix (v3 + (1 : Int32)))) (xs (ix (v3 + (2 : Int32)))) (xs (ix (v3 + (3 : Int32))))) (by decide) rfl (Nat.le_of_ble_eq_true rfl) (fun q253 _ => ?_)
                                                                        refine r_aload_n dL_law_1241 2 rfl rfl ?_
                                                                        refine r_aload_n dL_law_1242 0 rfl rfl ?_
                                                                        refine r_iload_n dL_law_1243 3 rfl rfl ?_
                                                                        refine r_iconst (v := (1 : Int32)) dL_law_1244 rfl ?_
                                                                        refine r_iadd dL_law_1245 ?_
                                                                        refine r_sld rfl dL_law_1246 (fun h254 => ?_)
                                                                        refine r_aload_n dL_law_1247 0 rfl rfl ?_
                                                                        refine r_iload_n dL_law_1248 3 rfl rfl ?_
                                                                        refine r_iconst (v := (2 : Int32)) dL_law_1249 rfl ?_
                                                                        refine r_iadd dL_law_1250 ?_
                                                                        refine r_sld rfl dL_law_1251 (fun h255 => ?_)
                                                                        refine r_aload_n dL_law_1252 0 rfl rfl ?_
                                                                        refine r_iload_n dL_law_1253 3 rfl rfl ?_
                                                                        refine r_iconst (v := (3 : Int32)) dL_law_1254 rfl ?_
                                                                        refine r_iadd dL_law_1255 ?_
                                                                        refine r_sld rfl dL_law_1256 (fun h256 => ?_)
                                                                        refine rVm_iS (as := [.int (xs (ix (v3 + (1 : Int32)))), .int (xs (ix (v3 + (2 : Int32)))), .int (xs (ix (v3 + (3 : Int32))))]) (st := [.int q253.1]) dL_law_1257 cl_L_155 (by decide) rfl rfl (m_X10_sheet q253.2 T U V (xs (ix (v3 + (1 : Int32)))) (xs (ix (v3 + (2 : Int32)))) (xs (ix (v3 + (3 : Int32))))) (by decide) rfl (Nat.le_of_ble_eq_true rfl) (fun q257 _ => ?_)
                                                                        refine r_icmp_eq (tgt := 1341) dL_law_1260 (by decide) (fun h258 => ?_) (fun h258 => ?_)
                                                                        · refine r_iinc (v := v3 + (8 : Int32)) (L' := [(3, .int (v3 + (8 : Int32))), (0, .ref 1000), (1, .ref 0), (2, .ref 78)]) dL_law_1341 3 rfl rfl (by decide) rfl ?_
                                                                          refine r_goto (tgt := 18) dL_law_1344 (by decide) ?_
                                                                          exact r_pick [1, 2, 3, 0] rfl (ih (v3 + (8 : Int32)) q253.2 T q257.2 V)
                                                                        · refine r_iconst (v := (0 : Int32)) dL_law_1263 rfl ?_
                                                                          exact r_ireturn (ty := .boolean) dL_law_1264 rfl rfl rfl
                                                                      · skip
                                                                        refine r_if (fun h259 => ?_) (fun h259 => ?_)
                                                                        · refine r_tableIn (off := 1232) (tgt := 1265) dL_law_33 33 h259 (by decide) (by decide) (by decide) (by decide) ?_
                                                                          refine r_aload_n dL_law_1265 1 rfl rfl ?_
                                                                          refine r_aload_n dL_law_1266 0 rfl rfl ?_
                                                                          refine r_iload_n dL_law_1267 3 rfl rfl ?_
                                                                          refine r_iconst (v := (1 : Int32)) dL_law_1268 rfl ?_
                                                                          refine r_iadd dL_law_1269 ?_
                                                                          refine r_sld rfl dL_law_1270 (fun h260 => ?_)
                                                                          refine rVc_iS (as := [.int (xs (ix (v3 + (1 : Int32))))]) (st := []) dL_law_1271 cl_L_156 (by decide) rfl rfl (m_X9_drop S T U V (xs (ix (v3 + (1 : Int32))))) (by decide) rfl (Nat.le_of_ble_eq_true rfl) (fun q261 _ => ?_)
                                                                          refine r_aload_n dL_law_1274 2 rfl rfl ?_
                                                                          refine r_aload_n dL_law_1275 0 rfl rfl ?_
                                                                          refine r_iload_n dL_law_1276 3 rfl rfl ?_
                                                                          refine r_iconst (v := (1 : Int32)) dL_law_1277 rfl ?_
                                                                          refine r_iadd dL_law_1278 ?_
                                                                          refine r_sld rfl dL_law_1279 (fun h262 => ?_)
                                                                          refine rVm_iS (as := [.int (xs (ix (v3 + (1 : Int32))))]) (st := [.int q261.1]) dL_law_1280 cl_L_159 (by decide) rfl rfl (m_X10_drop q261.2 T U V (xs (ix (v3 + (1 : Int32))))) (by decide) rfl (Nat.le_of_ble_eq_true rfl) (fun q263 _ => ?_)
                                                                          refine r_icmp_eq (tgt := 1341) dL_law_1283 (by decide) (fun h264 => ?_) (fun h264 => ?_)
                                                                          · refine r_iinc (v := v3 + (8 : Int32)) (L' := [(3, .int (v3 + (8 : Int32))), (0, .ref 1000), (1, .ref 0), (2, .ref 78)]) dL_law_1341 3 rfl rfl (by decide) rfl ?_
                                                                            refine r_goto (tgt := 18) dL_law_1344 (by decide) ?_
                                                                            exact r_pick [1, 2, 3, 0] rfl (ih (v3 + (8 : Int32)) q261.2 T q263.2 V)
                                                                          · refine r_iconst (v := (0 : Int32)) dL_law_1286 rfl ?_
                                                                            exact r_ireturn (ty := .boolean) dL_law_1287 rfl rfl rfl
                                                                        · skip
                                                                          refine r_if (fun h265 => ?_) (fun h265 => ?_)
                                                                          · refine r_tableIn (off := 1255) (tgt := 1288) dL_law_33 34 h265 (by decide) (by decide) (by decide) (by decide) ?_
                                                                            refine r_aload_n dL_law_1288 1 rfl rfl ?_
                                                                            refine r_aload_n dL_law_1289 0 rfl rfl ?_
                                                                            refine r_iload_n dL_law_1290 3 rfl rfl ?_
                                                                            refine r_iconst (v := (1 : Int32)) dL_law_1291 rfl ?_
                                                                            refine r_iadd dL_law_1292 ?_
                                                                            refine r_sld rfl dL_law_1293 (fun h266 => ?_)
                                                                            refine r_aload_n dL_law_1294 0 rfl rfl ?_
                                                                            refine r_iload_n dL_law_1295 3 rfl rfl ?_
                                                                            refine r_iconst (v := (2 : Int32)) dL_law_1296 rfl ?_
                                                                            refine r_iadd dL_law_1297 ?_
                                                                            refine r_sld rfl dL_law_1298 (fun h267 => ?_)
                                                                            refine r_aload_n dL_law_1299 0 rfl rfl ?_
                                                                            refine r_iload_n dL_law_1300 3 rfl rfl ?_
                                                                            refine r_iconst (v := (3 : Int32)) dL_law_1301 rfl ?_
                                                                            refine r_iadd dL_law_1302 ?_
                                                                            refine r_sld rfl dL_law_1303 (fun h268 => ?_)
                                                                            refine r_aload_n dL_law_1304 0 rfl rfl ?_
                                                                            refine r_iload_n dL_law_1305 3 rfl rfl ?_
                                                                            refine r_iconst (v := (4 : Int32)) dL_law_1306 rfl ?_
                                                                            refine r_iadd dL_law_1307 ?_
                                                                            refine r_sld rfl dL_law_1308 (fun h269 => ?_)
                                                                            refine rVc_iS (as := [.int (xs (ix (v3 + (1 : Int32)))), .int (xs (ix (v3 + (2 : Int32)))), .int (xs (ix (v3 + (3 : Int32)))), .int (xs (ix (v3 + (4 : Int32))))]) (st := []) dL_law_1309 cl_L_160 (by decide) rfl rfl (m_X9_item S T U V (xs (ix (v3 + (1 : Int32)))) (xs (ix (v3 + (2 : Int32)))) (xs (ix (v3 + (3 : Int32)))) (xs (ix (v3 + (4 : Int32))))) (by decide) rfl (Nat.le_of_ble_eq_true rfl) (fun q270 _ => ?_)
                                                                            refine r_aload_n dL_law_1312 2 rfl rfl ?_
                                                                            refine r_aload_n dL_law_1313 0 rfl rfl ?_
                                                                            refine r_iload_n dL_law_1314 3 rfl rfl ?_
                                                                            refine r_iconst (v := (1 : Int32)) dL_law_1315 rfl ?_
                                                                            refine r_iadd dL_law_1316 ?_
                                                                            refine r_sld rfl dL_law_1317 (fun h271 => ?_)
                                                                            refine r_aload_n dL_law_1318 0 rfl rfl ?_
                                                                            refine r_iload_n dL_law_1319 3 rfl rfl ?_
                                                                            refine r_iconst (v := (2 : Int32)) dL_law_1320 rfl ?_
                                                                            refine r_iadd dL_law_1321 ?_
                                                                            refine r_sld rfl dL_law_1322 (fun h272 => ?_)
                                                                            refine r_aload_n dL_law_1323 0 rfl rfl ?_
                                                                            refine r_iload_n dL_law_1324 3 rfl rfl ?_
                                                                            refine r_iconst (v := (3 : Int32)) dL_law_1325 rfl ?_
                                                                            refine r_iadd dL_law_1326 ?_
                                                                            refine r_sld rfl dL_law_1327 (fun h273 => ?_)
                                                                            refine r_aload_n dL_law_1328 0 rfl rfl ?_
                                                                            refine r_iload_n dL_law_1329 3 rfl rfl ?_
                                                                            refine r_iconst (v := (4 : Int32)) dL_law_1330 rfl ?_
                                                                            refine r_iadd dL_law_1331 ?_
                                                                            refine r_sld rfl dL_law_1332 (fun h274 => ?_)
                                                                            refine rVm_iS (as := [.int (xs (ix (v3 + (1 : Int32)))), .int (xs (ix (v3 + (2 : Int32)))), .int (xs (ix (v3 + (3 : Int32)))), .int (xs (ix (v3 + (4 : Int32))))]) (st := [.int q270.1]) dL_law_1333 cl_L_163 (by decide) rfl rfl (m_X10_item q270.2 T U V (xs (ix (v3 + (1 : Int32)))) (xs (ix (v3 + (2 : Int32)))) (xs (ix (v3 + (3 : Int32)))) (xs (ix (v3 + (4 : Int32))))) (by decide) rfl (Nat.le_of_ble_eq_true rfl) (fun q275 _ => ?_)
                                                                            refine r_icmp_eq (tgt := 1341) dL_law_1336 (by decide) (fun h276 => ?_) (fun h276 => ?_)
                                                                            · refine r_iinc (v := v3 + (8 : Int32)) (L' := [(3, .int (v3 + (8 : Int32))), (0, .ref 1000), (1, .ref 0), (2, .ref 78)]) dL_law_1341 3 rfl rfl (by decide) rfl ?_
                                                                              refine r_goto (tgt := 18) dL_law_1344 (by decide) ?_
                                                                              exact r_pick [1, 2, 3, 0] rfl (ih (v3 + (8 : Int32)) q270.2 T q275.2 V)
                                                                            · refine r_iconst (v := (0 : Int32)) dL_law_1339 rfl ?_
                                                                              exact r_ireturn (ty := .boolean) dL_law_1340 rfl rfl rfl
                                                                          · skip
                                                                            refine r_tableOut (tgt := 1341) dL_law_33 (by have e0 : ¬ ((xs (ix v3)) &&& (63 : Int32)).toInt = 0 := fun hh => h3 (Int32.toInt_inj.mp hh); have e1 : ¬ ((xs (ix v3)) &&& (63 : Int32)).toInt = 1 := fun hh => h15 (Int32.toInt_inj.mp hh); have e2 : ¬ ((xs (ix v3)) &&& (63 : Int32)).toInt = 2 := fun hh => h25 (Int32.toInt_inj.mp hh); have e3 : ¬ ((xs (ix v3)) &&& (63 : Int32)).toInt = 3 := fun hh => h29 (Int32.toInt_inj.mp hh); have e4 : ¬ ((xs (ix v3)) &&& (63 : Int32)).toInt = 4 := fun hh => h37 (Int32.toInt_inj.mp hh); have e5 : ¬ ((xs (ix v3)) &&& (63 : Int32)).toInt = 5 := fun hh => h45 (Int32.toInt_inj.mp hh); have e6 : ¬ ((xs (ix v3)) &&& (63 : Int32)).toInt = 6 := fun hh => h53 (Int32.toInt_inj.mp hh); have e7 : ¬ ((xs (ix v3)) &&& (63 : Int32)).toInt = 7 := fun hh => h61 (Int32.toInt_inj.mp hh); have e8 : ¬ ((xs (ix v3)) &&& (63 : Int32)).toInt = 8 := fun hh => h67 (Int32.toInt_inj.mp hh); have e9 : ¬ ((xs (ix v3)) &&& (63 : Int32)).toInt = 9 := fun hh => h75 (Int32.toInt_inj.mp hh); have e10 : ¬ ((xs (ix v3)) &&& (63 : Int32)).toInt = 10 := fun hh => h83 (Int32.toInt_inj.mp hh); have e11 : ¬ ((xs (ix v3)) &&& (63 : Int32)).toInt = 11 := fun hh => h89 (Int32.toInt_inj.mp hh); have e12 : ¬ ((xs (ix v3)) &&& (63 : Int32)).toInt = 12 := fun hh => h95 (Int32.toInt_inj.mp hh); have e13 : ¬ ((xs (ix v3)) &&& (63 : Int32)).toInt = 13 := fun hh => h101 (Int32.toInt_inj.mp hh); have e14 : ¬ ((xs (ix v3)) &&& (63 : Int32)).toInt = 14 := fun hh => h105 (Int32.toInt_inj.mp hh); have e15 : ¬ ((xs (ix v3)) &&& (63 : Int32)).toInt = 15 := fun hh => h111 (Int32.toInt_inj.mp hh); have e16 : ¬ ((xs (ix v3)) &&& (63 : Int32)).toInt = 16 := fun hh => h121 (Int32.toInt_inj.mp hh); have e17 : ¬ ((xs (ix v3)) &&& (63 : Int32)).toInt = 17 := fun hh => h137 (Int32.toInt_inj.mp hh); have e18 : ¬ ((xs (ix v3)) &&& (63 : Int32)).toInt = 18 := fun hh => h155 (Int32.toInt_inj.mp hh); have e19 : ¬ ((xs (ix v3)) &&& (63 : Int32)).toInt = 19 := fun hh => h159 (Int32.toInt_inj.mp hh); have e20 : ¬ ((xs (ix v3)) &&& (63 : Int32)).toInt = 20 := fun hh => h167 (Int32.toInt_inj.mp hh); have e21 : ¬ ((xs (ix v3)) &&& (63 : Int32)).toInt = 21 := fun hh => h179 (Int32.toInt_inj.mp hh); have e22 : ¬ ((xs (ix v3)) &&& (63 : Int32)).toInt = 22 := fun hh => h187 (Int32.toInt_inj.mp hh); have e23 : ¬ ((xs (ix v3)) &&& (63 : Int32)).toInt = 23 := fun hh => h195 (Int32.toInt_inj.mp hh); have e24 : ¬ ((xs (ix v3)) &&& (63 : Int32)).toInt = 24 := fun hh => h199 (Int32.toInt_inj.mp hh); have e25 : ¬ ((xs (ix v3)) &&& (63 : Int32)).toInt = 25 := fun hh => h205 (Int32.toInt_inj.mp hh); have e26 : ¬ ((xs (ix v3)) &&& (63 : Int32)).toInt = 26 := fun hh => h211 (Int32.toInt_inj.mp hh); have e27 : ¬ ((xs (ix v3)) &&& (63 : Int32)).toInt = 27 := fun hh => h219 (Int32.toInt_inj.mp hh); have e28 : ¬ ((xs (ix v3)) &&& (63 : Int32)).toInt = 28 := fun hh => h227 (Int32.toInt_inj.mp hh); have e29 : ¬ ((xs (ix v3)) &&& (63 : Int32)).toInt = 29 := fun hh => h231 (Int32.toInt_inj.mp hh); have e30 : ¬ ((xs (ix v3)) &&& (63 : Int32)).toInt = 30 := fun hh => h241 (Int32.toInt_inj.mp hh); have e31 : ¬ ((xs (ix v3)) &&& (63 : Int32)).toInt = 31 := fun hh => h245 (Int32.toInt_inj.mp hh); have e32 : ¬ ((xs (ix v3)) &&& (63 : Int32)).toInt = 32 := fun hh => h249 (Int32.toInt_inj.mp hh); have e33 : ¬ ((xs (ix v3)) &&& (63 : Int32)).toInt = 33 := fun hh => h259 (Int32.toInt_inj.mp hh); have e34 : ¬ ((xs (ix v3)) &&& (63 : Int32)).toInt = 34 := fun hh => h265 (Int32.toInt_inj.mp hh); omega) (by decide) ?_
                                                                            refine r_iinc (v := v3 + (8 : Int32)) (L' := [(3, .int (v3 + (8 : Int32))), (0, .ref 1000), (1, .ref 0), (2, .ref 78)]) dL_law_1341 3 rfl rfl (by decide) rfl ?_
                                                                            refine r_goto (tgt := 18) dL_law_1344 (by decide) ?_
                                                                            exact r_pick [1, 2, 3, 0] rfl (ih (v3 + (8 : Int32)) S T U V)
