def f_L_law_18 (F : Nat) (xs : Nat → Int32) (L : Nat) : Nat → Int32 → TW → HP → Option HP
  | 0, _, _, _ => none
  | n + 1, x3, tw, h =>
    if ((nI L) - (nI 4)) < x3 then
      some h
    else
      if inb x3 L then
        if ((xs (ix x3)) &&& (nI 31)) = nI 0 then
          if inb (x3 + (nI 1)) L then
            ob (f_X6_write F tw (xs (ix (x3 + (nI 1)))) h) (fun v4 h2 =>
            ob (f_X7_write F (xs (ix (x3 + (nI 1)))) h2) (fun v7 h5 =>
            if v4 = v7 then
              f_L_law_18 F xs L n (x3 + (nI 4)) tw h5
            else none))
          else none
        else if ((xs (ix x3)) &&& (nI 31)) = nI 1 then
          ob (f_X6_wipe F tw h) (fun v11 h9 =>
          ob (f_X7_wipe F h9) (fun v14 h12 =>
          if v11 = v14 then
            f_L_law_18 F xs L n (x3 + (nI 4)) tw h12
          else none))
        else if ((xs (ix x3)) &&& (nI 31)) = nI 2 then
          ob (f_X6_fault F tw h) (fun v18 h16 =>
          ob (f_X7_fault F h16) (fun v21 h19 =>
          if v18 = v21 then
            f_L_law_18 F xs L n (x3 + (nI 4)) tw h19
          else none))
        else if ((xs (ix x3)) &&& (nI 31)) = nI 3 then
          ob3 (f_X6_lay F tw h) (fun v25 t26 h23 =>
          ob (f_X7_lay F h23) (fun v29 h27 =>
          if v25 = v29 then
            f_L_law_18 F xs L n (x3 + (nI 4)) t26 h27
          else none))
        else if ((xs (ix x3)) &&& (nI 31)) = nI 4 then
          if inb (x3 + (nI 1)) L then
            if inb (x3 + (nI 2)) L then
              ob (f_X6_bell F tw (xs (ix (x3 + (nI 1)))) (xs (ix (x3 + (nI 2)))) h) (fun v35 h33 =>
              ob (f_X7_bell F (xs (ix (x3 + (nI 1)))) (xs (ix (x3 + (nI 2)))) h33) (fun v38 h36 =>
              if v35 = v38 then
                f_L_law_18 F xs L n (x3 + (nI 4)) tw h36
              else none))
            else none
          else none
        else if ((xs (ix x3)) &&& (nI 31)) = nI 5 then
          if inb (x3 + (nI 1)) L then
            ob (f_X6_pins F tw (xs (ix (x3 + (nI 1)))) h) (fun v43 h41 =>
            ob (f_X7_pins F (xs (ix (x3 + (nI 1)))) h41) (fun v46 h44 =>
            if v43 = v46 then
              f_L_law_18 F xs L n (x3 + (nI 4)) tw h44
            else none))
          else none
        else if ((xs (ix x3)) &&& (nI 31)) = nI 6 then
          ob (f_X6_turn F tw h) (fun v50 h48 =>
          ob (f_X7_turn F h48) (fun v53 h51 =>
          if v50 = v53 then
            f_L_law_18 F xs L n (x3 + (nI 4)) tw h51
          else none))
        else if ((xs (ix x3)) &&& (nI 31)) = nI 7 then
          ob (f_X6_turnBack F tw h) (fun v57 h55 =>
          ob (f_X7_turnBack F h55) (fun v60 h58 =>
          if v57 = v60 then
            f_L_law_18 F xs L n (x3 + (nI 4)) tw h58
          else none))
        else if ((xs (ix x3)) &&& (nI 31)) = nI 8 then
          if inb (x3 + (nI 1)) L then
            if inb (x3 + (nI 2)) L then
              if inb (x3 + (nI 3)) L then
                ob (f_X6_pin F tw (xs (ix (x3 + (nI 1)))) (xs (ix (x3 + (nI 2)))) (if (xs (ix (x3 + (nI 3)))) = nI 0 then nI 0 else nI 1) h) (fun v69 h67 =>
                ob (f_X7_pin F (xs (ix (x3 + (nI 1)))) (xs (ix (x3 + (nI 2)))) (if (xs (ix (x3 + (nI 3)))) = nI 0 then nI 0 else nI 1) h67) (fun v74 h72 =>
                if v69 = v74 then
                  f_L_law_18 F xs L n (x3 + (nI 4)) tw h72
                else none))
              else none
            else none
          else none
        else if ((xs (ix x3)) &&& (nI 31)) = nI 9 then
          if inb (x3 + (nI 1)) L then
            ob (f_X6_shift F tw (xs (ix (x3 + (nI 1)))) h) (fun v79 h77 =>
            ob (f_X7_shift F (xs (ix (x3 + (nI 1)))) h77) (fun v82 h80 =>
            if v79 = v82 then
              f_L_law_18 F xs L n (x3 + (nI 4)) tw h80
            else none))
          else none
        else if ((xs (ix x3)) &&& (nI 31)) = nI 10 then
          ob (f_X6_undo F tw h) (fun v86 h84 =>
          ob (f_X7_undo F h84) (fun v89 h87 =>
          if v86 = v89 then
            f_L_law_18 F xs L n (x3 + (nI 4)) tw h87
          else none))
        else if ((xs (ix x3)) &&& (nI 31)) = nI 11 then
          if inb (x3 + (nI 1)) L then
            ob (f_X6_whole F tw (xs (ix (x3 + (nI 1)))) h) (fun v94 h92 =>
            ob (f_X7_whole F (xs (ix (x3 + (nI 1)))) h92) (fun v97 h95 =>
            if v94 = v97 then
              f_L_law_18 F xs L n (x3 + (nI 4)) tw h95
            else none))
          else none
        else if ((xs (ix x3)) &&& (nI 31)) = nI 12 then
          ob (f_X6_silence F tw h) (fun v101 h99 =>
          ob (f_X7_silence F h99) (fun v104 h102 =>
          if v101 = v104 then
            f_L_law_18 F xs L n (x3 + (nI 4)) tw h102
          else none))
        else if ((xs (ix x3)) &&& (nI 31)) = nI 13 then
          ob (f_X6_again F tw h) (fun v108 h106 =>
          ob (f_X7_again F h106) (fun v111 h109 =>
          if v108 = v111 then
            f_L_law_18 F xs L n (x3 + (nI 4)) tw h109
          else none))
        else if ((xs (ix x3)) &&& (nI 31)) = nI 14 then
          ob (f_X6_harsh F tw h) (fun v115 h113 =>
          ob (f_X7_harsh F h113) (fun v118 h116 =>
          if v115 = v118 then
            f_L_law_18 F xs L n (x3 + (nI 4)) tw h116
          else none))
        else if ((xs (ix x3)) &&& (nI 31)) = nI 15 then
          if inb (x3 + (nI 1)) L then
            ob (f_X6_canon F tw (xs (ix (x3 + (nI 1)))) h) (fun v123 h121 =>
            ob (f_X7_canon F (xs (ix (x3 + (nI 1)))) h121) (fun v126 h124 =>
            if v123 = v126 then
              f_L_law_18 F xs L n (x3 + (nI 4)) tw h124
            else none))
          else none
        else if ((xs (ix x3)) &&& (nI 31)) = nI 16 then
          if inb (x3 + (nI 1)) L then
            if inb (x3 + (nI 2)) L then
              ob (f_X6_want F tw (xs (ix (x3 + (nI 1)))) (xs (ix (x3 + (nI 2)))) h) (fun v132 h130 =>
              ob (f_X7_want F (xs (ix (x3 + (nI 1)))) (xs (ix (x3 + (nI 2)))) h130) (fun v135 h133 =>
              if v132 = v135 then
                f_L_law_18 F xs L n (x3 + (nI 4)) tw h133
              else none))
            else none
          else none
        else if ((xs (ix x3)) &&& (nI 31)) = nI 17 then
          if inb (x3 + (nI 1)) L then
            ob (f_X6_changes F tw (xs (ix (x3 + (nI 1)))) h) (fun v140 h138 =>
            ob (f_X7_changes F (xs (ix (x3 + (nI 1)))) h138) (fun v143 h141 =>
            if v140 = v143 then
              f_L_law_18 F xs L n (x3 + (nI 4)) tw h141
            else none))
          else none
        else if ((xs (ix x3)) &&& (nI 31)) = nI 18 then
          ob (f_X6_letters F tw h) (fun v147 h145 =>
          ob (f_X7_letters F h145) (fun v150 h148 =>
          if v147 = v150 then
            f_L_law_18 F xs L n (x3 + (nI 4)) tw h148
          else none))
        else if ((xs (ix x3)) &&& (nI 31)) = nI 19 then
          ob (f_X6_ringers F tw h) (fun v154 h152 =>
          ob (f_X7_ringers F h152) (fun v157 h155 =>
          if v154 = v157 then
            f_L_law_18 F xs L n (x3 + (nI 4)) tw h155
          else none))
        else if ((xs (ix x3)) &&& (nI 31)) = nI 20 then
          if inb (x3 + (nI 1)) L then
            ob (f_X6_hear F tw (xs (ix (x3 + (nI 1)))) h) (fun v162 h160 =>
            ob (f_X7_hear F (xs (ix (x3 + (nI 1)))) h160) (fun v165 h163 =>
            if v162 = v165 then
              f_L_law_18 F xs L n (x3 + (nI 4)) tw h163
            else none))
          else none
        else if ((xs (ix x3)) &&& (nI 31)) = nI 21 then
          ob (f_X6_forget F tw h) (fun v169 h167 =>
          ob (f_X7_forget F h167) (fun v172 h170 =>
          if v169 = v172 then
            f_L_law_18 F xs L n (x3 + (nI 4)) tw h170
          else none))
        else if ((xs (ix x3)) &&& (nI 31)) = nI 22 then
          ob (f_X6_stood F tw h) (fun v176 h174 =>
          ob (f_X7_stood F h174) (fun v179 h177 =>
          if v176 = v179 then
            f_L_law_18 F xs L n (x3 + (nI 4)) tw h177
          else none))
        else if ((xs (ix x3)) &&& (nI 31)) = nI 23 then
          ob (f_X6_octaves F tw h) (fun v183 h181 =>
          ob (f_X7_octaves F h181) (fun v186 h184 =>
          if v183 = v186 then
            f_L_law_18 F xs L n (x3 + (nI 4)) tw h184
          else none))
        else if ((xs (ix x3)) &&& (nI 31)) = nI 24 then
          if inb (x3 + (nI 1)) L then
            ob (f_X6_melody F tw (xs (ix (x3 + (nI 1)))) h) (fun v191 h189 =>
            ob (f_X7_melody F (xs (ix (x3 + (nI 1)))) h189) (fun v194 h192 =>
            if v191 = v194 then
              f_L_law_18 F xs L n (x3 + (nI 4)) tw h192
            else none))
          else none
        else if ((xs (ix x3)) &&& (nI 31)) = nI 25 then
          if inb (x3 + (nI 1)) L then
            if inb (x3 + (nI 2)) L then
              if inb (x3 + (nI 3)) L then
                ob (f_X6_winter F tw (xs (ix (x3 + (nI 1)))) (xs (ix (x3 + (nI 2)))) (xs (ix (x3 + (nI 3)))) h) (fun v201 h199 =>
                ob (f_X7_winter F (xs (ix (x3 + (nI 1)))) (xs (ix (x3 + (nI 2)))) (xs (ix (x3 + (nI 3)))) h199) (fun v204 h202 =>
                if v201 = v204 then
                  f_L_law_18 F xs L n (x3 + (nI 4)) tw h202
                else none))
              else none
            else none
          else none
        else if ((xs (ix x3)) &&& (nI 31)) = nI 26 then
          ob (f_X6_keep F tw h) (fun v208 h206 =>
          ob (f_X7_keep F h206) (fun v211 h209 =>
          if v208 = v211 then
            f_L_law_18 F xs L n (x3 + (nI 4)) tw h209
          else none))
        else if ((xs (ix x3)) &&& (nI 31)) = nI 27 then
          ob (f_X6_back F tw h) (fun v215 h213 =>
          ob (f_X7_back F h213) (fun v218 h216 =>
          if v215 = v218 then
            f_L_law_18 F xs L n (x3 + (nI 4)) tw h216
          else none))
        else if ((xs (ix x3)) &&& (nI 31)) = nI 28 then
          if inb (x3 + (nI 1)) L then
            ob (f_X6_count F tw (xs (ix (x3 + (nI 1)))) h) (fun v223 h221 =>
            ob (f_X7_count F (xs (ix (x3 + (nI 1)))) h221) (fun v226 h224 =>
            if v223 = v226 then
              f_L_law_18 F xs L n (x3 + (nI 4)) tw h224
            else none))
          else none
        else f_L_law_18 F xs L n (x3 + (nI 4)) tw h
      else none
