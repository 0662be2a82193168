/-! the methods walked, by program (wip/whole/sym.py) -/
set_option maxRecDepth 100000 in
set_option maxHeartbeats 4000000 in
theorem T185_0 {S L : Nat} {F G : Nat → Nat → Int} {h : Nat → Nat → Option Nat} (hh : RfH h)   {Q : Option V2 → W2 → Prop}
    (H : C172_0  (Wd S L (am_up (am_up F 297 22 0) 297 23 0) G h) (fun v w1 => ∃ (v1 : Int) (F2 : Nat → Nat → Int), v = some (vi v1) ∧ w1 = (Wd S L F2 G h) ∧
  C180_0  (Wd S L F2 G h) (fun v w1 => ∃ (v3 : Int) (F4 : Nat → Nat → Int), v = some (vj v3) ∧ w1 = (Wd S L F4 G h) ∧
   C184_0 v3 (Wd S L F4 G h) (fun v w1 => ∃ (v5 : Int), v = some (vi v5) ∧ w1 = (Wd S L F4 G h) ∧
    (R32 v5 ∧
    (if 0 ≤ v5 then
     (if v5 = 0 then
      C178_0  (Wd S L F4 G h) (fun v w1 => ∃ (F9 : Nat → Nat → Int), v = none ∧ w1 = (Wd S L F9 G h) ∧
       (R32 (F9 297 23) ∧
       (if (F9 297 23) = 0 then
        C172_0  (Wd S L F9 G h) (fun v w1 => ∃ (v12 : Int) (F13 : Nat → Nat → Int), v = some (vi v12) ∧ w1 = (Wd S L F13 G h) ∧
         (R32 v12 ∧
         (if v12 = 0 then
          C172_0  (Wd S L F13 G h) (fun v w1 => ∃ (v16 : Int) (F17 : Nat → Nat → Int), v = some (vi v16) ∧ w1 = (Wd S L F17 G h) ∧
           C155_0  (Wd S L (am_up F17 297 7 0) G h) (fun v w1 => ∃ (F18 : Nat → Nat → Int), v = none ∧ w1 = (Wd S L F18 G h) ∧
            C181_0  (Wd S L F18 G h) (fun v w1 => ∃ (v19 : Int) (F20 : Nat → Nat → Int), v = some (vi v19) ∧ w1 = (Wd S L F20 G h) ∧
             (R32 v19 ∧
             (if v19 < 0 then
              Q (some (vi v19)) (Wd S L F20 G h)
             else
              C156_0  (Wd S L F20 G h) (fun v w1 => ∃ (F23 : Nat → Nat → Int), v = none ∧ w1 = (Wd S L F23 G h) ∧
               Q (some (vi v19)) (Wd S L F23 G h)))))))
         else
          C172_0  (Wd S L F13 G h) (fun v w1 => ∃ (v24 : Int) (F25 : Nat → Nat → Int), v = some (vi v24) ∧ w1 = (Wd S L F25 G h) ∧
           Q (some (vi ((-20) - (F25 297 22)))) (Wd S L (am_up F25 297 7 0) G h)))))
       else
        C172_0  (Wd S L F9 G h) (fun v w1 => ∃ (v26 : Int) (F27 : Nat → Nat → Int), v = some (vi v26) ∧ w1 = (Wd S L F27 G h) ∧
         Q (some (vi ((-20) - (F27 297 22)))) (Wd S L (am_up F27 297 7 0) G h)))))
     else
      (if v5 = 1 then
       C179_0  (Wd S L F4 G h) (fun v w1 => ∃ (F29 : Nat → Nat → Int), v = none ∧ w1 = (Wd S L F29 G h) ∧
        (R32 (F29 297 23) ∧
        (if (F29 297 23) = 0 then
         C172_0  (Wd S L F29 G h) (fun v w1 => ∃ (v32 : Int) (F33 : Nat → Nat → Int), v = some (vi v32) ∧ w1 = (Wd S L F33 G h) ∧
          (R32 v32 ∧
          (if v32 = 0 then
           C172_0  (Wd S L F33 G h) (fun v w1 => ∃ (v36 : Int) (F37 : Nat → Nat → Int), v = some (vi v36) ∧ w1 = (Wd S L F37 G h) ∧
            C155_0  (Wd S L (am_up F37 297 7 0) G h) (fun v w1 => ∃ (F38 : Nat → Nat → Int), v = none ∧ w1 = (Wd S L F38 G h) ∧
             C183_0 (F29 297 24) (Wd S L F38 G h) (fun v w1 => ∃ (v39 : Int) (F40 : Nat → Nat → Int), v = some (vi v39) ∧ w1 = (Wd S L F40 G h) ∧
              (R32 v39 ∧
              (if v39 < 0 then
               Q (some (vi v39)) (Wd S L F40 G h)
              else
               C156_0  (Wd S L F40 G h) (fun v w1 => ∃ (F43 : Nat → Nat → Int), v = none ∧ w1 = (Wd S L F43 G h) ∧
                Q (some (vi v39)) (Wd S L F43 G h)))))))
          else
           C172_0  (Wd S L F33 G h) (fun v w1 => ∃ (v44 : Int) (F45 : Nat → Nat → Int), v = some (vi v44) ∧ w1 = (Wd S L F45 G h) ∧
            Q (some (vi ((-20) - (F45 297 22)))) (Wd S L (am_up F45 297 7 0) G h)))))
        else
         C172_0  (Wd S L F29 G h) (fun v w1 => ∃ (v46 : Int) (F47 : Nat → Nat → Int), v = some (vi v46) ∧ w1 = (Wd S L F47 G h) ∧
          Q (some (vi ((-20) - (F47 297 22)))) (Wd S L (am_up F47 297 7 0) G h)))))
      else
       (if v5 = 2 then
        C176_0  (Wd S L F4 G h) (fun v w1 => ∃ (F49 : Nat → Nat → Int), v = none ∧ w1 = (Wd S L F49 G h) ∧
         C177_0 47 (Wd S L F49 G h) (fun v w1 => ∃ (F50 : Nat → Nat → Int), v = none ∧ w1 = (Wd S L F50 G h) ∧
          C175_0 1 2 (Wd S L F50 G h) (fun v w1 => ∃ (F51 : Nat → Nat → Int), v = none ∧ w1 = (Wd S L F51 G h) ∧
           (R32 (F51 297 23) ∧
           (if (F51 297 23) = 0 then
            C172_0  (Wd S L F51 G h) (fun v w1 => ∃ (v54 : Int) (F55 : Nat → Nat → Int), v = some (vi v54) ∧ w1 = (Wd S L F55 G h) ∧
             (R32 v54 ∧
             (if v54 = 0 then
              C172_0  (Wd S L F55 G h) (fun v w1 => ∃ (v58 : Int) (F59 : Nat → Nat → Int), v = some (vi v58) ∧ w1 = (Wd S L F59 G h) ∧
               C155_0  (Wd S L (am_up F59 297 7 0) G h) (fun v w1 => ∃ (F60 : Nat → Nat → Int), v = none ∧ w1 = (Wd S L F60 G h) ∧
                C162_0 (F49 297 24) (F51 297 24) (Wd S L F60 G h) (fun v w1 => ∃ (v61 : Int) (F62 : Nat → Nat → Int), v = some (vi v61) ∧ w1 = (Wd S L F62 G h) ∧
                 (R32 v61 ∧
                 (if v61 < 0 then
                  Q (some (vi v61)) (Wd S L F62 G h)
                 else
                  C156_0  (Wd S L F62 G h) (fun v w1 => ∃ (F65 : Nat → Nat → Int), v = none ∧ w1 = (Wd S L F65 G h) ∧
                   Q (some (vi v61)) (Wd S L F65 G h)))))))
             else
              C172_0  (Wd S L F55 G h) (fun v w1 => ∃ (v66 : Int) (F67 : Nat → Nat → Int), v = some (vi v66) ∧ w1 = (Wd S L F67 G h) ∧
               Q (some (vi ((-20) - (F67 297 22)))) (Wd S L (am_up F67 297 7 0) G h)))))
           else
            C172_0  (Wd S L F51 G h) (fun v w1 => ∃ (v68 : Int) (F69 : Nat → Nat → Int), v = some (vi v68) ∧ w1 = (Wd S L F69 G h) ∧
             Q (some (vi ((-20) - (F69 297 22)))) (Wd S L (am_up F69 297 7 0) G h)))))))
       else
        (if v5 = 3 then
         C175_0 0 3 (Wd S L F4 G h) (fun v w1 => ∃ (F71 : Nat → Nat → Int), v = none ∧ w1 = (Wd S L F71 G h) ∧
          (R32 (F71 297 23) ∧
          (if (F71 297 23) = 0 then
           C172_0  (Wd S L F71 G h) (fun v w1 => ∃ (v74 : Int) (F75 : Nat → Nat → Int), v = some (vi v74) ∧ w1 = (Wd S L F75 G h) ∧
            (R32 v74 ∧
            (if v74 = 0 then
             C172_0  (Wd S L F75 G h) (fun v w1 => ∃ (v78 : Int) (F79 : Nat → Nat → Int), v = some (vi v78) ∧ w1 = (Wd S L F79 G h) ∧
              C155_0  (Wd S L (am_up F79 297 7 0) G h) (fun v w1 => ∃ (F80 : Nat → Nat → Int), v = none ∧ w1 = (Wd S L F80 G h) ∧
               C163_0 (F71 297 24) (Wd S L F80 G h) (fun v w1 => ∃ (v81 : Int) (F82 : Nat → Nat → Int), v = some (vi v81) ∧ w1 = (Wd S L F82 G h) ∧
                (R32 v81 ∧
                (if v81 < 0 then
                 Q (some (vi v81)) (Wd S L F82 G h)
                else
                 C156_0  (Wd S L F82 G h) (fun v w1 => ∃ (F85 : Nat → Nat → Int), v = none ∧ w1 = (Wd S L F85 G h) ∧
                  Q (some (vi v81)) (Wd S L F85 G h)))))))
            else
             C172_0  (Wd S L F75 G h) (fun v w1 => ∃ (v86 : Int) (F87 : Nat → Nat → Int), v = some (vi v86) ∧ w1 = (Wd S L F87 G h) ∧
              Q (some (vi ((-20) - (F87 297 22)))) (Wd S L (am_up F87 297 7 0) G h)))))
          else
           C172_0  (Wd S L F71 G h) (fun v w1 => ∃ (v88 : Int) (F89 : Nat → Nat → Int), v = some (vi v88) ∧ w1 = (Wd S L F89 G h) ∧
            Q (some (vi ((-20) - (F89 297 22)))) (Wd S L (am_up F89 297 7 0) G h)))))
        else
         (R32 (F4 297 23) ∧
         (if (F4 297 23) = 0 then
          C172_0  (Wd S L F4 G h) (fun v w1 => ∃ (v92 : Int) (F93 : Nat → Nat → Int), v = some (vi v92) ∧ w1 = (Wd S L F93 G h) ∧
           (R32 v92 ∧
           (if v92 = 0 then
            C172_0  (Wd S L F93 G h) (fun v w1 => ∃ (v96 : Int) (F97 : Nat → Nat → Int), v = some (vi v96) ∧ w1 = (Wd S L F97 G h) ∧
             C155_0  (Wd S L (am_up F97 297 7 0) G h) (fun v w1 => ∃ (F98 : Nat → Nat → Int), v = none ∧ w1 = (Wd S L F98 G h) ∧
              C163_0 (F4 297 24) (Wd S L F98 G h) (fun v w1 => ∃ (v99 : Int) (F100 : Nat → Nat → Int), v = some (vi v99) ∧ w1 = (Wd S L F100 G h) ∧
               (R32 v99 ∧
               (if v99 < 0 then
                Q (some (vi v99)) (Wd S L F100 G h)
               else
                C156_0  (Wd S L F100 G h) (fun v w1 => ∃ (F103 : Nat → Nat → Int), v = none ∧ w1 = (Wd S L F103 G h) ∧
                 Q (some (vi v99)) (Wd S L F103 G h)))))))
           else
            C172_0  (Wd S L F93 G h) (fun v w1 => ∃ (v104 : Int) (F105 : Nat → Nat → Int), v = some (vi v104) ∧ w1 = (Wd S L F105 G h) ∧
             Q (some (vi ((-20) - (F105 297 22)))) (Wd S L (am_up F105 297 7 0) G h)))))
         else
          C172_0  (Wd S L F4 G h) (fun v w1 => ∃ (v106 : Int) (F107 : Nat → Nat → Int), v = some (vi v106) ∧ w1 = (Wd S L F107 G h) ∧
           Q (some (vi ((-20) - (F107 297 22)))) (Wd S L (am_up F107 297 7 0) G h))))))))
    else
     (if v5 = 0 then
      C178_0  (Wd S L (am_up (am_up F4 297 23 1) 297 22 (F2 297 22)) G h) (fun v w1 => ∃ (F109 : Nat → Nat → Int), v = none ∧ w1 = (Wd S L F109 G h) ∧
       (R32 (F109 297 23) ∧
       (if (F109 297 23) = 0 then
        C172_0  (Wd S L F109 G h) (fun v w1 => ∃ (v112 : Int) (F113 : Nat → Nat → Int), v = some (vi v112) ∧ w1 = (Wd S L F113 G h) ∧
         (R32 v112 ∧
         (if v112 = 0 then
          C172_0  (Wd S L F113 G h) (fun v w1 => ∃ (v116 : Int) (F117 : Nat → Nat → Int), v = some (vi v116) ∧ w1 = (Wd S L F117 G h) ∧
           C155_0  (Wd S L (am_up F117 297 7 0) G h) (fun v w1 => ∃ (F118 : Nat → Nat → Int), v = none ∧ w1 = (Wd S L F118 G h) ∧
            C181_0  (Wd S L F118 G h) (fun v w1 => ∃ (v119 : Int) (F120 : Nat → Nat → Int), v = some (vi v119) ∧ w1 = (Wd S L F120 G h) ∧
             (R32 v119 ∧
             (if v119 < 0 then
              Q (some (vi v119)) (Wd S L F120 G h)
             else
              C156_0  (Wd S L F120 G h) (fun v w1 => ∃ (F123 : Nat → Nat → Int), v = none ∧ w1 = (Wd S L F123 G h) ∧
               Q (some (vi v119)) (Wd S L F123 G h)))))))
         else
          C172_0  (Wd S L F113 G h) (fun v w1 => ∃ (v124 : Int) (F125 : Nat → Nat → Int), v = some (vi v124) ∧ w1 = (Wd S L F125 G h) ∧
           Q (some (vi ((-20) - (F2 297 22)))) (Wd S L (am_up F125 297 7 0) G h)))))
       else
        C172_0  (Wd S L F109 G h) (fun v w1 => ∃ (v126 : Int) (F127 : Nat → Nat → Int), v = some (vi v126) ∧ w1 = (Wd S L F127 G h) ∧
         Q (some (vi ((-20) - (F2 297 22)))) (Wd S L (am_up F127 297 7 0) G h)))))
     else
      (if v5 = 1 then
       C179_0  (Wd S L (am_up (am_up F4 297 23 1) 297 22 (F2 297 22)) G h) (fun v w1 => ∃ (F129 : Nat → Nat → Int), v = none ∧ w1 = (Wd S L F129 G h) ∧
        (R32 (F129 297 23) ∧
        (if (F129 297 23) = 0 then
         C172_0  (Wd S L F129 G h) (fun v w1 => ∃ (v132 : Int) (F133 : Nat → Nat → Int), v = some (vi v132) ∧ w1 = (Wd S L F133 G h) ∧
          (R32 v132 ∧
          (if v132 = 0 then
           C172_0  (Wd S L F133 G h) (fun v w1 => ∃ (v136 : Int) (F137 : Nat → Nat → Int), v = some (vi v136) ∧ w1 = (Wd S L F137 G h) ∧
            C155_0  (Wd S L (am_up F137 297 7 0) G h) (fun v w1 => ∃ (F138 : Nat → Nat → Int), v = none ∧ w1 = (Wd S L F138 G h) ∧
             C183_0 (F129 297 24) (Wd S L F138 G h) (fun v w1 => ∃ (v139 : Int) (F140 : Nat → Nat → Int), v = some (vi v139) ∧ w1 = (Wd S L F140 G h) ∧
              (R32 v139 ∧
              (if v139 < 0 then
               Q (some (vi v139)) (Wd S L F140 G h)
              else
               C156_0  (Wd S L F140 G h) (fun v w1 => ∃ (F143 : Nat → Nat → Int), v = none ∧ w1 = (Wd S L F143 G h) ∧
                Q (some (vi v139)) (Wd S L F143 G h)))))))
          else
           C172_0  (Wd S L F133 G h) (fun v w1 => ∃ (v144 : Int) (F145 : Nat → Nat → Int), v = some (vi v144) ∧ w1 = (Wd S L F145 G h) ∧
            Q (some (vi ((-20) - (F2 297 22)))) (Wd S L (am_up F145 297 7 0) G h)))))
        else
         C172_0  (Wd S L F129 G h) (fun v w1 => ∃ (v146 : Int) (F147 : Nat → Nat → Int), v = some (vi v146) ∧ w1 = (Wd S L F147 G h) ∧
          Q (some (vi ((-20) - (F2 297 22)))) (Wd S L (am_up F147 297 7 0) G h)))))
      else
       (if v5 = 2 then
        C176_0  (Wd S L (am_up (am_up F4 297 23 1) 297 22 (F2 297 22)) G h) (fun v w1 => ∃ (F149 : Nat → Nat → Int), v = none ∧ w1 = (Wd S L F149 G h) ∧
         C177_0 47 (Wd S L F149 G h) (fun v w1 => ∃ (F150 : Nat → Nat → Int), v = none ∧ w1 = (Wd S L F150 G h) ∧
          C175_0 1 2 (Wd S L F150 G h) (fun v w1 => ∃ (F151 : Nat → Nat → Int), v = none ∧ w1 = (Wd S L F151 G h) ∧
           (R32 (F151 297 23) ∧
           (if (F151 297 23) = 0 then
            C172_0  (Wd S L F151 G h) (fun v w1 => ∃ (v154 : Int) (F155 : Nat → Nat → Int), v = some (vi v154) ∧ w1 = (Wd S L F155 G h) ∧
             (R32 v154 ∧
             (if v154 = 0 then
              C172_0  (Wd S L F155 G h) (fun v w1 => ∃ (v158 : Int) (F159 : Nat → Nat → Int), v = some (vi v158) ∧ w1 = (Wd S L F159 G h) ∧
               C155_0  (Wd S L (am_up F159 297 7 0) G h) (fun v w1 => ∃ (F160 : Nat → Nat → Int), v = none ∧ w1 = (Wd S L F160 G h) ∧
                C162_0 (F149 297 24) (F151 297 24) (Wd S L F160 G h) (fun v w1 => ∃ (v161 : Int) (F162 : Nat → Nat → Int), v = some (vi v161) ∧ w1 = (Wd S L F162 G h) ∧
                 (R32 v161 ∧
                 (if v161 < 0 then
                  Q (some (vi v161)) (Wd S L F162 G h)
                 else
                  C156_0  (Wd S L F162 G h) (fun v w1 => ∃ (F165 : Nat → Nat → Int), v = none ∧ w1 = (Wd S L F165 G h) ∧
                   Q (some (vi v161)) (Wd S L F165 G h)))))))
             else
              C172_0  (Wd S L F155 G h) (fun v w1 => ∃ (v166 : Int) (F167 : Nat → Nat → Int), v = some (vi v166) ∧ w1 = (Wd S L F167 G h) ∧
               Q (some (vi ((-20) - (F2 297 22)))) (Wd S L (am_up F167 297 7 0) G h)))))
           else
            C172_0  (Wd S L F151 G h) (fun v w1 => ∃ (v168 : Int) (F169 : Nat → Nat → Int), v = some (vi v168) ∧ w1 = (Wd S L F169 G h) ∧
             Q (some (vi ((-20) - (F2 297 22)))) (Wd S L (am_up F169 297 7 0) G h)))))))
       else
        (if v5 = 3 then
         C175_0 0 3 (Wd S L (am_up (am_up F4 297 23 1) 297 22 (F2 297 22)) G h) (fun v w1 => ∃ (F171 : Nat → Nat → Int), v = none ∧ w1 = (Wd S L F171 G h) ∧
          (R32 (F171 297 23) ∧
          (if (F171 297 23) = 0 then
           C172_0  (Wd S L F171 G h) (fun v w1 => ∃ (v174 : Int) (F175 : Nat → Nat → Int), v = some (vi v174) ∧ w1 = (Wd S L F175 G h) ∧
            (R32 v174 ∧
            (if v174 = 0 then
             C172_0  (Wd S L F175 G h) (fun v w1 => ∃ (v178 : Int) (F179 : Nat → Nat → Int), v = some (vi v178) ∧ w1 = (Wd S L F179 G h) ∧
              C155_0  (Wd S L (am_up F179 297 7 0) G h) (fun v w1 => ∃ (F180 : Nat → Nat → Int), v = none ∧ w1 = (Wd S L F180 G h) ∧
               C163_0 (F171 297 24) (Wd S L F180 G h) (fun v w1 => ∃ (v181 : Int) (F182 : Nat → Nat → Int), v = some (vi v181) ∧ w1 = (Wd S L F182 G h) ∧
                (R32 v181 ∧
                (if v181 < 0 then
                 Q (some (vi v181)) (Wd S L F182 G h)
                else
                 C156_0  (Wd S L F182 G h) (fun v w1 => ∃ (F185 : Nat → Nat → Int), v = none ∧ w1 = (Wd S L F185 G h) ∧
                  Q (some (vi v181)) (Wd S L F185 G h)))))))
            else
             C172_0  (Wd S L F175 G h) (fun v w1 => ∃ (v186 : Int) (F187 : Nat → Nat → Int), v = some (vi v186) ∧ w1 = (Wd S L F187 G h) ∧
              Q (some (vi ((-20) - (F2 297 22)))) (Wd S L (am_up F187 297 7 0) G h)))))
          else
           C172_0  (Wd S L F171 G h) (fun v w1 => ∃ (v188 : Int) (F189 : Nat → Nat → Int), v = some (vi v188) ∧ w1 = (Wd S L F189 G h) ∧
            Q (some (vi ((-20) - (F2 297 22)))) (Wd S L (am_up F189 297 7 0) G h)))))
        else
         C172_0  (Wd S L (am_up (am_up F4 297 23 1) 297 22 (F2 297 22)) G h) (fun v w1 => ∃ (v190 : Int) (F191 : Nat → Nat → Int), v = some (vi v190) ∧ w1 = (Wd S L F191 G h) ∧
          Q (some (vi ((-20) - (F2 297 22)))) (Wd S L (am_up F191 297 7 0) G h)))))))))))) : C185_0  (Wd S L F G h) Q := by
  refine pt185 (s' := (11, [some (vr 297), none, none, none, none, none, none], [vr 297], (Wd S L (am_up (am_up F 297 22 0) 297 23 0) G h))) (by decide) [0, 0, 0, 0, 0, 0, 0] rfl ⟨⟨trivial, ⟨Nat.le_of_ble_eq_true rfl, rfl, fun h => by cases h⟩⟩, ⟨Nat.le_of_ble_eq_true rfl, rfl, fun _ => Or.inl rfl⟩⟩ ?_
  refine wp.cl am_m185 rfl am_m172 7 [vr 297] [] rfl (Nat.le_of_ble_eq_true rfl) (Nat.le_of_ble_eq_true rfl) rfl (Nat.le_of_ble_eq_true rfl) rfl (Nat.le_of_ble_eq_true rfl) (Nat.le_of_ble_eq_true rfl) ⟨_, _, rfl, Nat.le_of_ble_eq_true rfl, rfl⟩ ?_
  refine wp.mono H ?_
  rintro v w1 ⟨v1, F2, rfl, rfl, H⟩
  show wp 10 185 (14, [some (vr 297), none, none, none, none, none, none], [vi v1], (Wd S L F2 G h)) _
  refine pt185 (s' := (21, [some (vr 297), some (vi (F2 297 22)), none, none, none, none, none], [vr 297], (Wd S L F2 G h))) (by decide) [0, 0, 0, 0, 0] rfl ⟨trivial, ⟨Nat.le_of_ble_eq_true rfl, rfl⟩⟩ ?_
  refine wp.cl am_m185 rfl am_m180 8 [vr 297] [] rfl (Nat.le_of_ble_eq_true rfl) (Nat.le_of_ble_eq_true rfl) rfl (Nat.le_of_ble_eq_true rfl) rfl (Nat.le_of_ble_eq_true rfl) (Nat.le_of_ble_eq_true rfl) ⟨_, _, rfl, Nat.le_of_ble_eq_true rfl, rfl⟩ ?_
  refine wp.mono H ?_
  rintro v w1 ⟨v3, F4, rfl, rfl, H⟩
  show wp 10 185 (24, [some (vr 297), some (vi (F2 297 22)), none, none, none, none, none], [vj v3], (Wd S L F4 G h)) _
  refine wp.cl am_m185 rfl am_m184 6 [vj v3] [] rfl (Nat.le_of_ble_eq_true rfl) (Nat.le_of_ble_eq_true rfl) rfl (Nat.le_of_ble_eq_true rfl) rfl (Nat.le_of_ble_eq_true rfl) (Nat.le_of_ble_eq_true rfl) trivial ?_
  refine wp.mono H ?_
  rintro v w1 ⟨v5, rfl, rfl, H⟩
  show wp 10 185 (27, [some (vr 297), some (vi (F2 297 22)), none, none, none, none, none], [vi v5], (Wd S L F4 G h)) _
  obtain ⟨g6, H⟩ := H
  refine pt185 (s' := (29, [some (vr 297), some (vi (F2 297 22)), some (vi v5), none, none, none, none], [vi v5], (Wd S L F4 G h))) (by decide) [0, 0] rfl trivial ?_
  by_cases c7 : 0 ≤ v5
  · rw [if_pos c7] at H
    refine pt185 (s' := (45, [some (vr 297), some (vi (F2 297 22)), some (vi v5), some (vi 0), none, none, none], [vi v5], (Wd S L F4 G h))) (by decide) [1, 0, 0, 0] rfl ⟨trivial, ⟨g6, c7⟩⟩ ?_
    by_cases c8 : v5 = 0
    · rw [if_pos c8] at H
      refine pt185 (s' := (49, [some (vr 297), some (vi (F2 297 22)), some (vi v5), some (vi 0), none, none, none], [vr 297], (Wd S L F4 G h))) (by decide) [0, 0] rfl ⟨trivial, ⟨g6, c8⟩⟩ ?_
      refine wp.cl am_m185 rfl am_m178 9 [vr 297] [] rfl (Nat.le_of_ble_eq_true rfl) (Nat.le_of_ble_eq_true rfl) rfl (Nat.le_of_ble_eq_true rfl) rfl (Nat.le_of_ble_eq_true rfl) (Nat.le_of_ble_eq_true rfl) ⟨_, _, rfl, Nat.le_of_ble_eq_true rfl, rfl⟩ ?_
      refine wp.mono H ?_
      rintro v w1 ⟨F9, rfl, rfl, H⟩
      show wp 10 185 (52, [some (vr 297), some (vi (F2 297 22)), some (vi v5), some (vi 0), none, none, none], [], (Wd S L F9 G h)) _
      obtain ⟨g10, H⟩ := H
      refine pt185 (s' := (117, [some (vr 297), some (vi (F2 297 22)), some (vi v5), some (vi 0), some (vi (F9 297 24)), none, none], [vi (F9 297 23)], (Wd S L F9 G h))) (by decide) [0, 0, 0, 0, 0, 0] rfl ⟨⟨trivial, ⟨Nat.le_of_ble_eq_true rfl, rfl⟩⟩, ⟨Nat.le_of_ble_eq_true rfl, rfl⟩⟩ ?_
      by_cases c11 : (F9 297 23) = 0
      · rw [if_pos c11] at H
        refine pt185 (s' := (121, [some (vr 297), some (vi (F2 297 22)), some (vi v5), some (vi 0), some (vi (F9 297 24)), none, none], [vr 297], (Wd S L F9 G h))) (by decide) [0, 0] rfl ⟨trivial, ⟨g10, c11⟩⟩ ?_
        refine wp.cl am_m185 rfl am_m172 7 [vr 297] [] rfl (Nat.le_of_ble_eq_true rfl) (Nat.le_of_ble_eq_true rfl) rfl (Nat.le_of_ble_eq_true rfl) rfl (Nat.le_of_ble_eq_true rfl) (Nat.le_of_ble_eq_true rfl) ⟨_, _, rfl, Nat.le_of_ble_eq_true rfl, rfl⟩ ?_
        refine wp.mono H ?_
        rintro v w1 ⟨v12, F13, rfl, rfl, H⟩
        show wp 10 185 (124, [some (vr 297), some (vi (F2 297 22)), some (vi v5), some (vi 0), some (vi (F9 297 24)), none, none], [vi v12], (Wd S L F13 G h)) _
        obtain ⟨g14, H⟩ := H
        by_cases c15 : v12 = 0
        · rw [if_pos c15] at H
          refine pt185 (s' := (135, [some (vr 297), some (vi (F2 297 22)), some (vi v5), some (vi 0), some (vi (F9 297 24)), some (vi 1), none], [vr 297], (Wd S L F13 G h))) (by decide) [0, 0, 0, 0, 0] rfl ⟨trivial, ⟨g14, c15⟩⟩ ?_
          refine wp.cl am_m185 rfl am_m172 7 [vr 297] [] rfl (Nat.le_of_ble_eq_true rfl) (Nat.le_of_ble_eq_true rfl) rfl (Nat.le_of_ble_eq_true rfl) rfl (Nat.le_of_ble_eq_true rfl) (Nat.le_of_ble_eq_true rfl) ⟨_, _, rfl, Nat.le_of_ble_eq_true rfl, rfl⟩ ?_
          refine wp.mono H ?_
          rintro v w1 ⟨v16, F17, rfl, rfl, H⟩
          show wp 10 185 (138, [some (vr 297), some (vi (F2 297 22)), some (vi v5), some (vi 0), some (vi (F9 297 24)), some (vi 1), none], [vi v16], (Wd S L F17 G h)) _
          refine pt185 (s' := (170, [some (vr 297), some (vi (F2 297 22)), some (vi v5), some (vi 0), some (vi (F9 297 24)), some (vi 1), some (vi ((-20) - (F17 297 22)))], [vr 297], (Wd S L (am_up F17 297 7 0) G h))) (by decide) [0, 0, 0, 1, 0, 0, 0, 0, 0, 0, 0, 0, 1, 0] rfl ⟨⟨⟨⟨trivial, ⟨g6, c7⟩⟩, ⟨Nat.le_of_ble_eq_true rfl, rfl⟩⟩, ⟨Nat.le_of_ble_eq_true rfl, rfl, fun h => by cases h⟩⟩, ⟨(by decide : R32 1), (by decide : ¬ (1 : Int) = (0 : Int))⟩⟩ ?_
          refine wp.cl am_m185 rfl am_m155 6 [vr 297] [] rfl (Nat.le_of_ble_eq_true rfl) (Nat.le_of_ble_eq_true rfl) rfl (Nat.le_of_ble_eq_true rfl) rfl (Nat.le_of_ble_eq_true rfl) (Nat.le_of_ble_eq_true rfl) ⟨_, _, rfl, Nat.le_of_ble_eq_true rfl, rfl⟩ ?_
          refine wp.mono H ?_
          rintro v w1 ⟨F18, rfl, rfl, H⟩
          show wp 10 185 (173, [some (vr 297), some (vi (F2 297 22)), some (vi v5), some (vi 0), some (vi (F9 297 24)), some (vi 1), some (vi ((-20) - (F17 297 22)))], [], (Wd S L F18 G h)) _
          refine pt185 (s' := (179, [some (vr 297), some (vi (F2 297 22)), some (vi v5), some (vi 0), some (vi (F9 297 24)), some (vi 1), some (vi ((-20) - (F17 297 22)))], [vr 297, vr 297], (Wd S L F18 G h))) (by decide) [0, 0, 0, 0] rfl ⟨trivial, ⟨g6, c8⟩⟩ ?_
          refine wp.cl am_m185 rfl am_m181 7 [vr 297] [vr 297] rfl (Nat.le_of_ble_eq_true rfl) (Nat.le_of_ble_eq_true rfl) rfl (Nat.le_of_ble_eq_true rfl) rfl (Nat.le_of_ble_eq_true rfl) (Nat.le_of_ble_eq_true rfl) ⟨_, _, rfl, Nat.le_of_ble_eq_true rfl, rfl⟩ ?_
          refine wp.mono H ?_
          rintro v w1 ⟨v19, F20, rfl, rfl, H⟩
          show wp 10 185 (182, [some (vr 297), some (vi (F2 297 22)), some (vi v5), some (vi 0), some (vi (F9 297 24)), some (vi 1), some (vi ((-20) - (F17 297 22)))], [vi v19, vr 297], (Wd S L F20 G h)) _
          refine pt185 (s' := (220, [some (vr 297), some (vi (F2 297 22)), some (vi v5), some (vi 0), some (vi (F9 297 24)), some (vi 1), some (vi ((-20) - (F17 297 22)))], [vi v19, vr 297], (Wd S L F20 G h))) (by decide) [0] rfl trivial ?_
          refine wp.cl am_m185 rfl am_m157 7 [vr 297, vi v19] [] rfl (Nat.le_of_ble_eq_true rfl) (Nat.le_of_ble_eq_true rfl) rfl (Nat.le_of_ble_eq_true rfl) rfl (Nat.le_of_ble_eq_true rfl) (Nat.le_of_ble_eq_true rfl) ⟨_, _, rfl, Nat.le_of_ble_eq_true rfl, rfl⟩ ?_
          obtain ⟨g21, H⟩ := H
          refine pt157 (s' := (1, [some (vr 297), some (vi v19)], [vi v19], (Wd S L F20 G h))) (by decide) [0] rfl trivial ?_
          by_cases c22 : v19 < 0
          · rw [if_pos c22] at H
            refine pt157 (s' := (9, [some (vr 297), some (vi v19)], [vi v19], (Wd S L F20 G h))) (by decide) [1, 0] rfl ⟨trivial, ⟨g21, c22⟩⟩ ?_
            refine wp.fin (v := some (vi v19)) (by decide) am_m157 rfl ⟨_, rfl, Or.inl rfl, rfl⟩ ?_
            show wp 10 185 (223, [some (vr 297), some (vi (F2 297 22)), some (vi v5), some (vi 0), some (vi (F9 297 24)), some (vi 1), some (vi ((-20) - (F17 297 22)))], [vi v19], (Wd S L F20 G h)) _
            exact wp.fin (v := some (vi v19)) (by decide) am_m185 rfl ⟨_, rfl, Or.inl rfl, rfl⟩ H
          · rw [if_neg c22] at H
            refine pt157 (s' := (5, [some (vr 297), some (vi v19)], [vr 297], (Wd S L F20 G h))) (by decide) [0, 0] rfl ⟨trivial, ⟨g21, c22⟩⟩ ?_
            refine wp.cl am_m157 rfl am_m156 6 [vr 297] [] rfl (Nat.le_of_ble_eq_true rfl) (Nat.le_of_ble_eq_true rfl) rfl (Nat.le_of_ble_eq_true rfl) rfl (Nat.le_of_ble_eq_true rfl) (Nat.le_of_ble_eq_true rfl) ⟨_, _, rfl, Nat.le_of_ble_eq_true rfl, rfl⟩ ?_
            refine wp.mono H ?_
            rintro v w1 ⟨F23, rfl, rfl, H⟩
            show wp 7 157 (8, [some (vr 297), some (vi v19)], [], (Wd S L F23 G h)) _
            refine pt157 (s' := (9, [some (vr 297), some (vi v19)], [vi v19], (Wd S L F23 G h))) (by decide) [0] rfl trivial ?_
            refine wp.fin (v := some (vi v19)) (by decide) am_m157 rfl ⟨_, rfl, Or.inl rfl, rfl⟩ ?_
            show wp 10 185 (223, [some (vr 297), some (vi (F2 297 22)), some (vi v5), some (vi 0), some (vi (F9 297 24)), some (vi 1), some (vi ((-20) - (F17 297 22)))], [vi v19], (Wd S L F23 G h)) _
            exact wp.fin (v := some (vi v19)) (by decide) am_m185 rfl ⟨_, rfl, Or.inl rfl, rfl⟩ H
        · rw [if_neg c15] at H
          refine pt185 (s' := (135, [some (vr 297), some (vi (F2 297 22)), some (vi v5), some (vi 0), some (vi (F9 297 24)), some (vi 0), none], [vr 297], (Wd S L F13 G h))) (by decide) [1, 0, 0, 0] rfl ⟨trivial, ⟨g14, c15⟩⟩ ?_
          refine wp.cl am_m185 rfl am_m172 7 [vr 297] [] rfl (Nat.le_of_ble_eq_true rfl) (Nat.le_of_ble_eq_true rfl) rfl (Nat.le_of_ble_eq_true rfl) rfl (Nat.le_of_ble_eq_true rfl) (Nat.le_of_ble_eq_true rfl) ⟨_, _, rfl, Nat.le_of_ble_eq_true rfl, rfl⟩ ?_
          refine wp.mono H ?_
          rintro v w1 ⟨v24, F25, rfl, rfl, H⟩
          show wp 10 185 (138, [some (vr 297), some (vi (F2 297 22)), some (vi v5), some (vi 0), some (vi (F9 297 24)), some (vi 0), none], [vi v24], (Wd S L F25 G h)) _
          refine pt185 (s' := (168, [some (vr 297), some (vi (F2 297 22)), some (vi v5), some (vi 0), some (vi (F9 297 24)), some (vi 0), some (vi ((-20) - (F25 297 22)))], [vi ((-20) - (F25 297 22))], (Wd S L (am_up F25 297 7 0) G h))) (by decide) [0, 0, 0, 1, 0, 0, 0, 0, 0, 0, 0, 0, 0, 0] rfl ⟨⟨⟨⟨trivial, ⟨g6, c7⟩⟩, ⟨Nat.le_of_ble_eq_true rfl, rfl⟩⟩, ⟨Nat.le_of_ble_eq_true rfl, rfl, fun h => by cases h⟩⟩, ⟨(by decide : R32 0), (by decide : (0 : Int) = (0 : Int))⟩⟩ ?_
          exact wp.fin (v := some (vi ((-20) - (F25 297 22)))) (by decide) am_m185 rfl ⟨_, rfl, Or.inl rfl, rfl⟩ H
      · rw [if_neg c11] at H
        refine pt185 (s' := (135, [some (vr 297), some (vi (F2 297 22)), some (vi v5), some (vi 0), some (vi (F9 297 24)), some (vi 0), none], [vr 297], (Wd S L F9 G h))) (by decide) [1, 0, 0, 0] rfl ⟨trivial, ⟨g10, c11⟩⟩ ?_
        refine wp.cl am_m185 rfl am_m172 7 [vr 297] [] rfl (Nat.le_of_ble_eq_true rfl) (Nat.le_of_ble_eq_true rfl) rfl (Nat.le_of_ble_eq_true rfl) rfl (Nat.le_of_ble_eq_true rfl) (Nat.le_of_ble_eq_true rfl) ⟨_, _, rfl, Nat.le_of_ble_eq_true rfl, rfl⟩ ?_
        refine wp.mono H ?_
        rintro v w1 ⟨v26, F27, rfl, rfl, H⟩
        show wp 10 185 (138, [some (vr 297), some (vi (F2 297 22)), some (vi v5), some (vi 0), some (vi (F9 297 24)), some (vi 0), none], [vi v26], (Wd S L F27 G h)) _
        refine pt185 (s' := (168, [some (vr 297), some (vi (F2 297 22)), some (vi v5), some (vi 0), some (vi (F9 297 24)), some (vi 0), some (vi ((-20) - (F27 297 22)))], [vi ((-20) - (F27 297 22))], (Wd S L (am_up F27 297 7 0) G h))) (by decide) [0, 0, 0, 1, 0, 0, 0, 0, 0, 0, 0, 0, 0, 0] rfl ⟨⟨⟨⟨trivial, ⟨g6, c7⟩⟩, ⟨Nat.le_of_ble_eq_true rfl, rfl⟩⟩, ⟨Nat.le_of_ble_eq_true rfl, rfl, fun h => by cases h⟩⟩, ⟨(by decide : R32 0), (by decide : (0 : Int) = (0 : Int))⟩⟩ ?_
        exact wp.fin (v := some (vi ((-20) - (F27 297 22)))) (by decide) am_m185 rfl ⟨_, rfl, Or.inl rfl, rfl⟩ H
    · rw [if_neg c8] at H
      refine pt185 (s' := (57, [some (vr 297), some (vi (F2 297 22)), some (vi v5), some (vi 0), none, none, none], [vi 1, vi v5], (Wd S L F4 G h))) (by decide) [1, 0, 0] rfl ⟨trivial, ⟨g6, c8⟩⟩ ?_
      by_cases c28 : v5 = 1
      · rw [if_pos c28] at H
        refine pt185 (s' := (61, [some (vr 297), some (vi (F2 297 22)), some (vi v5), some (vi 0), none, none, none], [vr 297], (Wd S L F4 G h))) (by decide) [0, 0] rfl ⟨trivial, ⟨⟨g6, (by decide : R32 1)⟩, c28⟩⟩ ?_
        refine wp.cl am_m185 rfl am_m179 9 [vr 297] [] rfl (Nat.le_of_ble_eq_true rfl) (Nat.le_of_ble_eq_true rfl) rfl (Nat.le_of_ble_eq_true rfl) rfl (Nat.le_of_ble_eq_true rfl) (Nat.le_of_ble_eq_true rfl) ⟨_, _, rfl, Nat.le_of_ble_eq_true rfl, rfl⟩ ?_
        refine wp.mono H ?_
        rintro v w1 ⟨F29, rfl, rfl, H⟩
        show wp 10 185 (64, [some (vr 297), some (vi (F2 297 22)), some (vi v5), some (vi 0), none, none, none], [], (Wd S L F29 G h)) _
        obtain ⟨g30, H⟩ := H
        refine pt185 (s' := (117, [some (vr 297), some (vi (F2 297 22)), some (vi v5), some (vi 0), some (vi (F29 297 24)), none, none], [vi (F29 297 23)], (Wd S L F29 G h))) (by decide) [0, 0, 0, 0, 0, 0] rfl ⟨⟨trivial, ⟨Nat.le_of_ble_eq_true rfl, rfl⟩⟩, ⟨Nat.le_of_ble_eq_true rfl, rfl⟩⟩ ?_
        by_cases c31 : (F29 297 23) = 0
        · rw [if_pos c31] at H
          refine pt185 (s' := (121, [some (vr 297), some (vi (F2 297 22)), some (vi v5), some (vi 0), some (vi (F29 297 24)), none, none], [vr 297], (Wd S L F29 G h))) (by decide) [0, 0] rfl ⟨trivial, ⟨g30, c31⟩⟩ ?_
          refine wp.cl am_m185 rfl am_m172 7 [vr 297] [] rfl (Nat.le_of_ble_eq_true rfl) (Nat.le_of_ble_eq_true rfl) rfl (Nat.le_of_ble_eq_true rfl) rfl (Nat.le_of_ble_eq_true rfl) (Nat.le_of_ble_eq_true rfl) ⟨_, _, rfl, Nat.le_of_ble_eq_true rfl, rfl⟩ ?_
          refine wp.mono H ?_
          rintro v w1 ⟨v32, F33, rfl, rfl, H⟩
          show wp 10 185 (124, [some (vr 297), some (vi (F2 297 22)), some (vi v5), some (vi 0), some (vi (F29 297 24)), none, none], [vi v32], (Wd S L F33 G h)) _
          obtain ⟨g34, H⟩ := H
          by_cases c35 : v32 = 0
          · rw [if_pos c35] at H
            refine pt185 (s' := (135, [some (vr 297), some (vi (F2 297 22)), some (vi v5), some (vi 0), some (vi (F29 297 24)), some (vi 1), none], [vr 297], (Wd S L F33 G h))) (by decide) [0, 0, 0, 0, 0] rfl ⟨trivial, ⟨g34, c35⟩⟩ ?_
            refine wp.cl am_m185 rfl am_m172 7 [vr 297] [] rfl (Nat.le_of_ble_eq_true rfl) (Nat.le_of_ble_eq_true rfl) rfl (Nat.le_of_ble_eq_true rfl) rfl (Nat.le_of_ble_eq_true rfl) (Nat.le_of_ble_eq_true rfl) ⟨_, _, rfl, Nat.le_of_ble_eq_true rfl, rfl⟩ ?_
            refine wp.mono H ?_
            rintro v w1 ⟨v36, F37, rfl, rfl, H⟩
            show wp 10 185 (138, [some (vr 297), some (vi (F2 297 22)), some (vi v5), some (vi 0), some (vi (F29 297 24)), some (vi 1), none], [vi v36], (Wd S L F37 G h)) _
            refine pt185 (s' := (170, [some (vr 297), some (vi (F2 297 22)), some (vi v5), some (vi 0), some (vi (F29 297 24)), some (vi 1), some (vi ((-20) - (F37 297 22)))], [vr 297], (Wd S L (am_up F37 297 7 0) G h))) (by decide) [0, 0, 0, 1, 0, 0, 0, 0, 0, 0, 0, 0, 1, 0] rfl ⟨⟨⟨⟨trivial, ⟨g6, c7⟩⟩, ⟨Nat.le_of_ble_eq_true rfl, rfl⟩⟩, ⟨Nat.le_of_ble_eq_true rfl, rfl, fun h => by cases h⟩⟩, ⟨(by decide : R32 1), (by decide : ¬ (1 : Int) = (0 : Int))⟩⟩ ?_
            refine wp.cl am_m185 rfl am_m155 6 [vr 297] [] rfl (Nat.le_of_ble_eq_true rfl) (Nat.le_of_ble_eq_true rfl) rfl (Nat.le_of_ble_eq_true rfl) rfl (Nat.le_of_ble_eq_true rfl) (Nat.le_of_ble_eq_true rfl) ⟨_, _, rfl, Nat.le_of_ble_eq_true rfl, rfl⟩ ?_
            refine wp.mono H ?_
            rintro v w1 ⟨F38, rfl, rfl, H⟩
            show wp 10 185 (173, [some (vr 297), some (vi (F2 297 22)), some (vi v5), some (vi 0), some (vi (F29 297 24)), some (vi 1), some (vi ((-20) - (F37 297 22)))], [], (Wd S L F38 G h)) _
            refine pt185 (s' := (193, [some (vr 297), some (vi (F2 297 22)), some (vi v5), some (vi 0), some (vi (F29 297 24)), some (vi 1), some (vi ((-20) - (F37 297 22)))], [vi (F29 297 24), vr 297, vr 297], (Wd S L F38 G h))) (by decide) [0, 0, 1, 0, 0, 0, 0, 0] rfl ⟨⟨trivial, ⟨g6, c8⟩⟩, ⟨⟨g6, (by decide : R32 1)⟩, c28⟩⟩ ?_
            refine wp.cl am_m185 rfl am_m183 8 [vr 297, vi (F29 297 24)] [vr 297] rfl (Nat.le_of_ble_eq_true rfl) (Nat.le_of_ble_eq_true rfl) rfl (Nat.le_of_ble_eq_true rfl) rfl (Nat.le_of_ble_eq_true rfl) (Nat.le_of_ble_eq_true rfl) ⟨_, _, rfl, Nat.le_of_ble_eq_true rfl, rfl⟩ ?_
            refine wp.mono H ?_
            rintro v w1 ⟨v39, F40, rfl, rfl, H⟩
            show wp 10 185 (196, [some (vr 297), some (vi (F2 297 22)), some (vi v5), some (vi 0), some (vi (F29 297 24)), some (vi 1), some (vi ((-20) - (F37 297 22)))], [vi v39, vr 297], (Wd S L F40 G h)) _
            refine pt185 (s' := (220, [some (vr 297), some (vi (F2 297 22)), some (vi v5), some (vi 0), some (vi (F29 297 24)), some (vi 1), some (vi ((-20) - (F37 297 22)))], [vi v39, vr 297], (Wd S L F40 G h))) (by decide) [0] rfl trivial ?_
            refine wp.cl am_m185 rfl am_m157 7 [vr 297, vi v39] [] rfl (Nat.le_of_ble_eq_true rfl) (Nat.le_of_ble_eq_true rfl) rfl (Nat.le_of_ble_eq_true rfl) rfl (Nat.le_of_ble_eq_true rfl) (Nat.le_of_ble_eq_true rfl) ⟨_, _, rfl, Nat.le_of_ble_eq_true rfl, rfl⟩ ?_
            obtain ⟨g41, H⟩ := H
            refine pt157 (s' := (1, [some (vr 297), some (vi v39)], [vi v39], (Wd S L F40 G h))) (by decide) [0] rfl trivial ?_
            by_cases c42 : v39 < 0
            · rw [if_pos c42] at H
              refine pt157 (s' := (9, [some (vr 297), some (vi v39)], [vi v39], (Wd S L F40 G h))) (by decide) [1, 0] rfl ⟨trivial, ⟨g41, c42⟩⟩ ?_
              refine wp.fin (v := some (vi v39)) (by decide) am_m157 rfl ⟨_, rfl, Or.inl rfl, rfl⟩ ?_
              show wp 10 185 (223, [some (vr 297), some (vi (F2 297 22)), some (vi v5), some (vi 0), some (vi (F29 297 24)), some (vi 1), some (vi ((-20) - (F37 297 22)))], [vi v39], (Wd S L F40 G h)) _
              exact wp.fin (v := some (vi v39)) (by decide) am_m185 rfl ⟨_, rfl, Or.inl rfl, rfl⟩ H
            · rw [if_neg c42] at H
              refine pt157 (s' := (5, [some (vr 297), some (vi v39)], [vr 297], (Wd S L F40 G h))) (by decide) [0, 0] rfl ⟨trivial, ⟨g41, c42⟩⟩ ?_
              refine wp.cl am_m157 rfl am_m156 6 [vr 297] [] rfl (Nat.le_of_ble_eq_true rfl) (Nat.le_of_ble_eq_true rfl) rfl (Nat.le_of_ble_eq_true rfl) rfl (Nat.le_of_ble_eq_true rfl) (Nat.le_of_ble_eq_true rfl) ⟨_, _, rfl, Nat.le_of_ble_eq_true rfl, rfl⟩ ?_
              refine wp.mono H ?_
              rintro v w1 ⟨F43, rfl, rfl, H⟩
              show wp 7 157 (8, [some (vr 297), some (vi v39)], [], (Wd S L F43 G h)) _
              refine pt157 (s' := (9, [some (vr 297), some (vi v39)], [vi v39], (Wd S L F43 G h))) (by decide) [0] rfl trivial ?_
              refine wp.fin (v := some (vi v39)) (by decide) am_m157 rfl ⟨_, rfl, Or.inl rfl, rfl⟩ ?_
              show wp 10 185 (223, [some (vr 297), some (vi (F2 297 22)), some (vi v5), some (vi 0), some (vi (F29 297 24)), some (vi 1), some (vi ((-20) - (F37 297 22)))], [vi v39], (Wd S L F43 G h)) _
              exact wp.fin (v := some (vi v39)) (by decide) am_m185 rfl ⟨_, rfl, Or.inl rfl, rfl⟩ H
          · rw [if_neg c35] at H
            refine pt185 (s' := (135, [some (vr 297), some (vi (F2 297 22)), some (vi v5), some (vi 0), some (vi (F29 297 24)), some (vi 0), none], [vr 297], (Wd S L F33 G h))) (by decide) [1, 0, 0, 0] rfl ⟨trivial, ⟨g34, c35⟩⟩ ?_
            refine wp.cl am_m185 rfl am_m172 7 [vr 297] [] rfl (Nat.le_of_ble_eq_true rfl) (Nat.le_of_ble_eq_true rfl) rfl (Nat.le_of_ble_eq_true rfl) rfl (Nat.le_of_ble_eq_true rfl) (Nat.le_of_ble_eq_true rfl) ⟨_, _, rfl, Nat.le_of_ble_eq_true rfl, rfl⟩ ?_
            refine wp.mono H ?_
            rintro v w1 ⟨v44, F45, rfl, rfl, H⟩
            show wp 10 185 (138, [some (vr 297), some (vi (F2 297 22)), some (vi v5), some (vi 0), some (vi (F29 297 24)), some (vi 0), none], [vi v44], (Wd S L F45 G h)) _
            refine pt185 (s' := (168, [some (vr 297), some (vi (F2 297 22)), some (vi v5), some (vi 0), some (vi (F29 297 24)), some (vi 0), some (vi ((-20) - (F45 297 22)))], [vi ((-20) - (F45 297 22))], (Wd S L (am_up F45 297 7 0) G h))) (by decide) [0, 0, 0, 1, 0, 0, 0, 0, 0, 0, 0, 0, 0, 0] rfl ⟨⟨⟨⟨trivial, ⟨g6, c7⟩⟩, ⟨Nat.le_of_ble_eq_true rfl, rfl⟩⟩, ⟨Nat.le_of_ble_eq_true rfl, rfl, fun h => by cases h⟩⟩, ⟨(by decide : R32 0), (by decide : (0 : Int) = (0 : Int))⟩⟩ ?_
            exact wp.fin (v := some (vi ((-20) - (F45 297 22)))) (by decide) am_m185 rfl ⟨_, rfl, Or.inl rfl, rfl⟩ H
        · rw [if_neg c31] at H
          refine pt185 (s' := (135, [some (vr 297), some (vi (F2 297 22)), some (vi v5), some (vi 0), some (vi (F29 297 24)), some (vi 0), none], [vr 297], (Wd S L F29 G h))) (by decide) [1, 0, 0, 0] rfl ⟨trivial, ⟨g30, c31⟩⟩ ?_
          refine wp.cl am_m185 rfl am_m172 7 [vr 297] [] rfl (Nat.le_of_ble_eq_true rfl) (Nat.le_of_ble_eq_true rfl) rfl (Nat.le_of_ble_eq_true rfl) rfl (Nat.le_of_ble_eq_true rfl) (Nat.le_of_ble_eq_true rfl) ⟨_, _, rfl, Nat.le_of_ble_eq_true rfl, rfl⟩ ?_
          refine wp.mono H ?_
          rintro v w1 ⟨v46, F47, rfl, rfl, H⟩
          show wp 10 185 (138, [some (vr 297), some (vi (F2 297 22)), some (vi v5), some (vi 0), some (vi (F29 297 24)), some (vi 0), none], [vi v46], (Wd S L F47 G h)) _
          refine pt185 (s' := (168, [some (vr 297), some (vi (F2 297 22)), some (vi v5), some (vi 0), some (vi (F29 297 24)), some (vi 0), some (vi ((-20) - (F47 297 22)))], [vi ((-20) - (F47 297 22))], (Wd S L (am_up F47 297 7 0) G h))) (by decide) [0, 0, 0, 1, 0, 0, 0, 0, 0, 0, 0, 0, 0, 0] rfl ⟨⟨⟨⟨trivial, ⟨g6, c7⟩⟩, ⟨Nat.le_of_ble_eq_true rfl, rfl⟩⟩, ⟨Nat.le_of_ble_eq_true rfl, rfl, fun h => by cases h⟩⟩, ⟨(by decide : R32 0), (by decide : (0 : Int) = (0 : Int))⟩⟩ ?_
          exact wp.fin (v := some (vi ((-20) - (F47 297 22)))) (by decide) am_m185 rfl ⟨_, rfl, Or.inl rfl, rfl⟩ H
      · rw [if_neg c28] at H
        refine pt185 (s' := (69, [some (vr 297), some (vi (F2 297 22)), some (vi v5), some (vi 0), none, none, none], [vi 2, vi v5], (Wd S L F4 G h))) (by decide) [1, 0, 0] rfl ⟨trivial, ⟨⟨g6, (by decide : R32 1)⟩, c28⟩⟩ ?_
        by_cases c48 : v5 = 2
        · rw [if_pos c48] at H
          refine pt185 (s' := (73, [some (vr 297), some (vi (F2 297 22)), some (vi v5), some (vi 0), none, none, none], [vr 297], (Wd S L F4 G h))) (by decide) [0, 0] rfl ⟨trivial, ⟨⟨g6, (by decide : R32 2)⟩, c48⟩⟩ ?_
          refine wp.cl am_m185 rfl am_m176 8 [vr 297] [] rfl (Nat.le_of_ble_eq_true rfl) (Nat.le_of_ble_eq_true rfl) rfl (Nat.le_of_ble_eq_true rfl) rfl (Nat.le_of_ble_eq_true rfl) (Nat.le_of_ble_eq_true rfl) ⟨_, _, rfl, Nat.le_of_ble_eq_true rfl, rfl⟩ ?_
          refine wp.mono H ?_
          rintro v w1 ⟨F49, rfl, rfl, H⟩
          show wp 10 185 (76, [some (vr 297), some (vi (F2 297 22)), some (vi v5), some (vi 0), none, none, none], [], (Wd S L F49 G h)) _
          refine pt185 (s' := (84, [some (vr 297), some (vi (F2 297 22)), some (vi v5), some (vi (F49 297 24)), none, none, none], [vi 47, vr 297], (Wd S L F49 G h))) (by decide) [0, 0, 0, 0, 0] rfl ⟨trivial, ⟨Nat.le_of_ble_eq_true rfl, rfl⟩⟩ ?_
          refine wp.cl am_m185 rfl am_m177 8 [vr 297, vi 47] [] rfl (Nat.le_of_ble_eq_true rfl) (Nat.le_of_ble_eq_true rfl) rfl (Nat.le_of_ble_eq_true rfl) rfl (Nat.le_of_ble_eq_true rfl) (Nat.le_of_ble_eq_true rfl) ⟨_, _, rfl, Nat.le_of_ble_eq_true rfl, rfl⟩ ?_
          refine wp.mono H ?_
          rintro v w1 ⟨F50, rfl, rfl, H⟩
          show wp 10 185 (87, [some (vr 297), some (vi (F2 297 22)), some (vi v5), some (vi (F49 297 24)), none, none, none], [], (Wd S L F50 G h)) _
          refine pt185 (s' := (90, [some (vr 297), some (vi (F2 297 22)), some (vi v5), some (vi (F49 297 24)), none, none, none], [vi 2, vi 1, vr 297], (Wd S L F50 G h))) (by decide) [0, 0, 0] rfl trivial ?_
          refine wp.cl am_m185 rfl am_m175 8 [vr 297, vi 1, vi 2] [] rfl (Nat.le_of_ble_eq_true rfl) (Nat.le_of_ble_eq_true rfl) rfl (Nat.le_of_ble_eq_true rfl) rfl (Nat.le_of_ble_eq_true rfl) (Nat.le_of_ble_eq_true rfl) ⟨_, _, rfl, Nat.le_of_ble_eq_true rfl, rfl⟩ ?_
          refine wp.mono H ?_
          rintro v w1 ⟨F51, rfl, rfl, H⟩
          show wp 10 185 (93, [some (vr 297), some (vi (F2 297 22)), some (vi v5), some (vi (F49 297 24)), none, none, none], [], (Wd S L F51 G h)) _
          obtain ⟨g52, H⟩ := H
          refine pt185 (s' := (117, [some (vr 297), some (vi (F2 297 22)), some (vi v5), some (vi (F49 297 24)), some (vi (F51 297 24)), none, none], [vi (F51 297 23)], (Wd S L F51 G h))) (by decide) [0, 0, 0, 0, 0, 0] rfl ⟨⟨trivial, ⟨Nat.le_of_ble_eq_true rfl, rfl⟩⟩, ⟨Nat.le_of_ble_eq_true rfl, rfl⟩⟩ ?_
          by_cases c53 : (F51 297 23) = 0
          · rw [if_pos c53] at H
            refine pt185 (s' := (121, [some (vr 297), some (vi (F2 297 22)), some (vi v5), some (vi (F49 297 24)), some (vi (F51 297 24)), none, none], [vr 297], (Wd S L F51 G h))) (by decide) [0, 0] rfl ⟨trivial, ⟨g52, c53⟩⟩ ?_
            refine wp.cl am_m185 rfl am_m172 7 [vr 297] [] rfl (Nat.le_of_ble_eq_true rfl) (Nat.le_of_ble_eq_true rfl) rfl (Nat.le_of_ble_eq_true rfl) rfl (Nat.le_of_ble_eq_true rfl) (Nat.le_of_ble_eq_true rfl) ⟨_, _, rfl, Nat.le_of_ble_eq_true rfl, rfl⟩ ?_
            refine wp.mono H ?_
            rintro v w1 ⟨v54, F55, rfl, rfl, H⟩
            show wp 10 185 (124, [some (vr 297), some (vi (F2 297 22)), some (vi v5), some (vi (F49 297 24)), some (vi (F51 297 24)), none, none], [vi v54], (Wd S L F55 G h)) _
            obtain ⟨g56, H⟩ := H
            by_cases c57 : v54 = 0
            · rw [if_pos c57] at H
              refine pt185 (s' := (135, [some (vr 297), some (vi (F2 297 22)), some (vi v5), some (vi (F49 297 24)), some (vi (F51 297 24)), some (vi 1), none], [vr 297], (Wd S L F55 G h))) (by decide) [0, 0, 0, 0, 0] rfl ⟨trivial, ⟨g56, c57⟩⟩ ?_
              refine wp.cl am_m185 rfl am_m172 7 [vr 297] [] rfl (Nat.le_of_ble_eq_true rfl) (Nat.le_of_ble_eq_true rfl) rfl (Nat.le_of_ble_eq_true rfl) rfl (Nat.le_of_ble_eq_true rfl) (Nat.le_of_ble_eq_true rfl) ⟨_, _, rfl, Nat.le_of_ble_eq_true rfl, rfl⟩ ?_
              refine wp.mono H ?_
              rintro v w1 ⟨v58, F59, rfl, rfl, H⟩
              show wp 10 185 (138, [some (vr 297), some (vi (F2 297 22)), some (vi v5), some (vi (F49 297 24)), some (vi (F51 297 24)), some (vi 1), none], [vi v58], (Wd S L F59 G h)) _
              refine pt185 (s' := (170, [some (vr 297), some (vi (F2 297 22)), some (vi v5), some (vi (F49 297 24)), some (vi (F51 297 24)), some (vi 1), some (vi ((-20) - (F59 297 22)))], [vr 297], (Wd S L (am_up F59 297 7 0) G h))) (by decide) [0, 0, 0, 1, 0, 0, 0, 0, 0, 0, 0, 0, 1, 0] rfl ⟨⟨⟨⟨trivial, ⟨g6, c7⟩⟩, ⟨Nat.le_of_ble_eq_true rfl, rfl⟩⟩, ⟨Nat.le_of_ble_eq_true rfl, rfl, fun h => by cases h⟩⟩, ⟨(by decide : R32 1), (by decide : ¬ (1 : Int) = (0 : Int))⟩⟩ ?_
              refine wp.cl am_m185 rfl am_m155 6 [vr 297] [] rfl (Nat.le_of_ble_eq_true rfl) (Nat.le_of_ble_eq_true rfl) rfl (Nat.le_of_ble_eq_true rfl) rfl (Nat.le_of_ble_eq_true rfl) (Nat.le_of_ble_eq_true rfl) ⟨_, _, rfl, Nat.le_of_ble_eq_true rfl, rfl⟩ ?_
              refine wp.mono H ?_
              rintro v w1 ⟨F60, rfl, rfl, H⟩
              show wp 10 185 (173, [some (vr 297), some (vi (F2 297 22)), some (vi v5), some (vi (F49 297 24)), some (vi (F51 297 24)), some (vi 1), some (vi ((-20) - (F59 297 22)))], [], (Wd S L F60 G h)) _
              refine pt185 (s' := (208, [some (vr 297), some (vi (F2 297 22)), some (vi v5), some (vi (F49 297 24)), some (vi (F51 297 24)), some (vi 1), some (vi ((-20) - (F59 297 22)))], [vi (F51 297 24), vi (F49 297 24), vr 297, vr 297], (Wd S L F60 G h))) (by decide) [0, 0, 1, 0, 0, 1, 0, 0, 0, 0, 0, 0] rfl ⟨⟨⟨trivial, ⟨g6, c8⟩⟩, ⟨⟨g6, (by decide : R32 1)⟩, c28⟩⟩, ⟨⟨g6, (by decide : R32 2)⟩, c48⟩⟩ ?_
              refine wp.cl am_m185 rfl am_m162 7 [vr 297, vi (F49 297 24), vi (F51 297 24)] [vr 297] rfl (Nat.le_of_ble_eq_true rfl) (Nat.le_of_ble_eq_true rfl) rfl (Nat.le_of_ble_eq_true rfl) rfl (Nat.le_of_ble_eq_true rfl) (Nat.le_of_ble_eq_true rfl) ⟨_, _, rfl, Nat.le_of_ble_eq_true rfl, rfl⟩ ?_
              refine wp.mono H ?_
              rintro v w1 ⟨v61, F62, rfl, rfl, H⟩
              show wp 10 185 (211, [some (vr 297), some (vi (F2 297 22)), some (vi v5), some (vi (F49 297 24)), some (vi (F51 297 24)), some (vi 1), some (vi ((-20) - (F59 297 22)))], [vi v61, vr 297], (Wd S L F62 G h)) _
              refine pt185 (s' := (220, [some (vr 297), some (vi (F2 297 22)), some (vi v5), some (vi (F49 297 24)), some (vi (F51 297 24)), some (vi 1), some (vi ((-20) - (F59 297 22)))], [vi v61, vr 297], (Wd S L F62 G h))) (by decide) [0] rfl trivial ?_
              refine wp.cl am_m185 rfl am_m157 7 [vr 297, vi v61] [] rfl (Nat.le_of_ble_eq_true rfl) (Nat.le_of_ble_eq_true rfl) rfl (Nat.le_of_ble_eq_true rfl) rfl (Nat.le_of_ble_eq_true rfl) (Nat.le_of_ble_eq_true rfl) ⟨_, _, rfl, Nat.le_of_ble_eq_true rfl, rfl⟩ ?_
              obtain ⟨g63, H⟩ := H
              refine pt157 (s' := (1, [some (vr 297), some (vi v61)], [vi v61], (Wd S L F62 G h))) (by decide) [0] rfl trivial ?_
              by_cases c64 : v61 < 0
              · rw [if_pos c64] at H
                refine pt157 (s' := (9, [some (vr 297), some (vi v61)], [vi v61], (Wd S L F62 G h))) (by decide) [1, 0] rfl ⟨trivial, ⟨g63, c64⟩⟩ ?_
                refine wp.fin (v := some (vi v61)) (by decide) am_m157 rfl ⟨_, rfl, Or.inl rfl, rfl⟩ ?_
                show wp 10 185 (223, [some (vr 297), some (vi (F2 297 22)), some (vi v5), some (vi (F49 297 24)), some (vi (F51 297 24)), some (vi 1), some (vi ((-20) - (F59 297 22)))], [vi v61], (Wd S L F62 G h)) _
                exact wp.fin (v := some (vi v61)) (by decide) am_m185 rfl ⟨_, rfl, Or.inl rfl, rfl⟩ H
              · rw [if_neg c64] at H
                refine pt157 (s' := (5, [some (vr 297), some (vi v61)], [vr 297], (Wd S L F62 G h))) (by decide) [0, 0] rfl ⟨trivial, ⟨g63, c64⟩⟩ ?_
                refine wp.cl am_m157 rfl am_m156 6 [vr 297] [] rfl (Nat.le_of_ble_eq_true rfl) (Nat.le_of_ble_eq_true rfl) rfl (Nat.le_of_ble_eq_true rfl) rfl (Nat.le_of_ble_eq_true rfl) (Nat.le_of_ble_eq_true rfl) ⟨_, _, rfl, Nat.le_of_ble_eq_true rfl, rfl⟩ ?_
                refine wp.mono H ?_
                rintro v w1 ⟨F65, rfl, rfl, H⟩
                show wp 7 157 (8, [some (vr 297), some (vi v61)], [], (Wd S L F65 G h)) _
                refine pt157 (s' := (9, [some (vr 297), some (vi v61)], [vi v61], (Wd S L F65 G h))) (by decide) [0] rfl trivial ?_
                refine wp.fin (v := some (vi v61)) (by decide) am_m157 rfl ⟨_, rfl, Or.inl rfl, rfl⟩ ?_
                show wp 10 185 (223, [some (vr 297), some (vi (F2 297 22)), some (vi v5), some (vi (F49 297 24)), some (vi (F51 297 24)), some (vi 1), some (vi ((-20) - (F59 297 22)))], [vi v61], (Wd S L F65 G h)) _
                exact wp.fin (v := some (vi v61)) (by decide) am_m185 rfl ⟨_, rfl, Or.inl rfl, rfl⟩ H
            · rw [if_neg c57] at H
              refine pt185 (s' := (135, [some (vr 297), some (vi (F2 297 22)), some (vi v5), some (vi (F49 297 24)), some (vi (F51 297 24)), some (vi 0), none], [vr 297], (Wd S L F55 G h))) (by decide) [1, 0, 0, 0] rfl ⟨trivial, ⟨g56, c57⟩⟩ ?_
              refine wp.cl am_m185 rfl am_m172 7 [vr 297] [] rfl (Nat.le_of_ble_eq_true rfl) (Nat.le_of_ble_eq_true rfl) rfl (Nat.le_of_ble_eq_true rfl) rfl (Nat.le_of_ble_eq_true rfl) (Nat.le_of_ble_eq_true rfl) ⟨_, _, rfl, Nat.le_of_ble_eq_true rfl, rfl⟩ ?_
              refine wp.mono H ?_
              rintro v w1 ⟨v66, F67, rfl, rfl, H⟩
              show wp 10 185 (138, [some (vr 297), some (vi (F2 297 22)), some (vi v5), some (vi (F49 297 24)), some (vi (F51 297 24)), some (vi 0), none], [vi v66], (Wd S L F67 G h)) _
              refine pt185 (s' := (168, [some (vr 297), some (vi (F2 297 22)), some (vi v5), some (vi (F49 297 24)), some (vi (F51 297 24)), some (vi 0), some (vi ((-20) - (F67 297 22)))], [vi ((-20) - (F67 297 22))], (Wd S L (am_up F67 297 7 0) G h))) (by decide) [0, 0, 0, 1, 0, 0, 0, 0, 0, 0, 0, 0, 0, 0] rfl ⟨⟨⟨⟨trivial, ⟨g6, c7⟩⟩, ⟨Nat.le_of_ble_eq_true rfl, rfl⟩⟩, ⟨Nat.le_of_ble_eq_true rfl, rfl, fun h => by cases h⟩⟩, ⟨(by decide : R32 0), (by decide : (0 : Int) = (0 : Int))⟩⟩ ?_
              exact wp.fin (v := some (vi ((-20) - (F67 297 22)))) (by decide) am_m185 rfl ⟨_, rfl, Or.inl rfl, rfl⟩ H
          · rw [if_neg c53] at H
            refine pt185 (s' := (135, [some (vr 297), some (vi (F2 297 22)), some (vi v5), some (vi (F49 297 24)), some (vi (F51 297 24)), some (vi 0), none], [vr 297], (Wd S L F51 G h))) (by decide) [1, 0, 0, 0] rfl ⟨trivial, ⟨g52, c53⟩⟩ ?_
            refine wp.cl am_m185 rfl am_m172 7 [vr 297] [] rfl (Nat.le_of_ble_eq_true rfl) (Nat.le_of_ble_eq_true rfl) rfl (Nat.le_of_ble_eq_true rfl) rfl (Nat.le_of_ble_eq_true rfl) (Nat.le_of_ble_eq_true rfl) ⟨_, _, rfl, Nat.le_of_ble_eq_true rfl, rfl⟩ ?_
            refine wp.mono H ?_
            rintro v w1 ⟨v68, F69, rfl, rfl, H⟩
            show wp 10 185 (138, [some (vr 297), some (vi (F2 297 22)), some (vi v5), some (vi (F49 297 24)), some (vi (F51 297 24)), some (vi 0), none], [vi v68], (Wd S L F69 G h)) _
            refine pt185 (s' := (168, [some (vr 297), some (vi (F2 297 22)), some (vi v5), some (vi (F49 297 24)), some (vi (F51 297 24)), some (vi 0), some (vi ((-20) - (F69 297 22)))], [vi ((-20) - (F69 297 22))], (Wd S L (am_up F69 297 7 0) G h))) (by decide) [0, 0, 0, 1, 0, 0, 0, 0, 0, 0, 0, 0, 0, 0] rfl ⟨⟨⟨⟨trivial, ⟨g6, c7⟩⟩, ⟨Nat.le_of_ble_eq_true rfl, rfl⟩⟩, ⟨Nat.le_of_ble_eq_true rfl, rfl, fun h => by cases h⟩⟩, ⟨(by decide : R32 0), (by decide : (0 : Int) = (0 : Int))⟩⟩ ?_
            exact wp.fin (v := some (vi ((-20) - (F69 297 22)))) (by decide) am_m185 rfl ⟨_, rfl, Or.inl rfl, rfl⟩ H
        · rw [if_neg c48] at H
          refine pt185 (s' := (98, [some (vr 297), some (vi (F2 297 22)), some (vi v5), some (vi 0), none, none, none], [vi 3, vi v5], (Wd S L F4 G h))) (by decide) [1, 0, 0] rfl ⟨trivial, ⟨⟨g6, (by decide : R32 2)⟩, c48⟩⟩ ?_
          by_cases c70 : v5 = 3
          · rw [if_pos c70] at H
            refine pt185 (s' := (104, [some (vr 297), some (vi (F2 297 22)), some (vi v5), some (vi 0), none, none, none], [vi 3, vi 0, vr 297], (Wd S L F4 G h))) (by decide) [0, 0, 0, 0] rfl ⟨trivial, ⟨⟨g6, (by decide : R32 3)⟩, c70⟩⟩ ?_
            refine wp.cl am_m185 rfl am_m175 8 [vr 297, vi 0, vi 3] [] rfl (Nat.le_of_ble_eq_true rfl) (Nat.le_of_ble_eq_true rfl) rfl (Nat.le_of_ble_eq_true rfl) rfl (Nat.le_of_ble_eq_true rfl) (Nat.le_of_ble_eq_true rfl) ⟨_, _, rfl, Nat.le_of_ble_eq_true rfl, rfl⟩ ?_
            refine wp.mono H ?_
            rintro v w1 ⟨F71, rfl, rfl, H⟩
            show wp 10 185 (107, [some (vr 297), some (vi (F2 297 22)), some (vi v5), some (vi 0), none, none, none], [], (Wd S L F71 G h)) _
            obtain ⟨g72, H⟩ := H
            refine pt185 (s' := (117, [some (vr 297), some (vi (F2 297 22)), some (vi v5), some (vi 0), some (vi (F71 297 24)), none, none], [vi (F71 297 23)], (Wd S L F71 G h))) (by decide) [0, 0, 0, 0, 0] rfl ⟨⟨trivial, ⟨Nat.le_of_ble_eq_true rfl, rfl⟩⟩, ⟨Nat.le_of_ble_eq_true rfl, rfl⟩⟩ ?_
            by_cases c73 : (F71 297 23) = 0
            · rw [if_pos c73] at H
              refine pt185 (s' := (121, [some (vr 297), some (vi (F2 297 22)), some (vi v5), some (vi 0), some (vi (F71 297 24)), none, none], [vr 297], (Wd S L F71 G h))) (by decide) [0, 0] rfl ⟨trivial, ⟨g72, c73⟩⟩ ?_
              refine wp.cl am_m185 rfl am_m172 7 [vr 297] [] rfl (Nat.le_of_ble_eq_true rfl) (Nat.le_of_ble_eq_true rfl) rfl (Nat.le_of_ble_eq_true rfl) rfl (Nat.le_of_ble_eq_true rfl) (Nat.le_of_ble_eq_true rfl) ⟨_, _, rfl, Nat.le_of_ble_eq_true rfl, rfl⟩ ?_
              refine wp.mono H ?_
              rintro v w1 ⟨v74, F75, rfl, rfl, H⟩
              show wp 10 185 (124, [some (vr 297), some (vi (F2 297 22)), some (vi v5), some (vi 0), some (vi (F71 297 24)), none, none], [vi v74], (Wd S L F75 G h)) _
              obtain ⟨g76, H⟩ := H
              by_cases c77 : v74 = 0
              · rw [if_pos c77] at H
                refine pt185 (s' := (135, [some (vr 297), some (vi (F2 297 22)), some (vi v5), some (vi 0), some (vi (F71 297 24)), some (vi 1), none], [vr 297], (Wd S L F75 G h))) (by decide) [0, 0, 0, 0, 0] rfl ⟨trivial, ⟨g76, c77⟩⟩ ?_
                refine wp.cl am_m185 rfl am_m172 7 [vr 297] [] rfl (Nat.le_of_ble_eq_true rfl) (Nat.le_of_ble_eq_true rfl) rfl (Nat.le_of_ble_eq_true rfl) rfl (Nat.le_of_ble_eq_true rfl) (Nat.le_of_ble_eq_true rfl) ⟨_, _, rfl, Nat.le_of_ble_eq_true rfl, rfl⟩ ?_
                refine wp.mono H ?_
                rintro v w1 ⟨v78, F79, rfl, rfl, H⟩
                show wp 10 185 (138, [some (vr 297), some (vi (F2 297 22)), some (vi v5), some (vi 0), some (vi (F71 297 24)), some (vi 1), none], [vi v78], (Wd S L F79 G h)) _
                refine pt185 (s' := (170, [some (vr 297), some (vi (F2 297 22)), some (vi v5), some (vi 0), some (vi (F71 297 24)), some (vi 1), some (vi ((-20) - (F79 297 22)))], [vr 297], (Wd S L (am_up F79 297 7 0) G h))) (by decide) [0, 0, 0, 1, 0, 0, 0, 0, 0, 0, 0, 0, 1, 0] rfl ⟨⟨⟨⟨trivial, ⟨g6, c7⟩⟩, ⟨Nat.le_of_ble_eq_true rfl, rfl⟩⟩, ⟨Nat.le_of_ble_eq_true rfl, rfl, fun h => by cases h⟩⟩, ⟨(by decide : R32 1), (by decide : ¬ (1 : Int) = (0 : Int))⟩⟩ ?_
                refine wp.cl am_m185 rfl am_m155 6 [vr 297] [] rfl (Nat.le_of_ble_eq_true rfl) (Nat.le_of_ble_eq_true rfl) rfl (Nat.le_of_ble_eq_true rfl) rfl (Nat.le_of_ble_eq_true rfl) (Nat.le_of_ble_eq_true rfl) ⟨_, _, rfl, Nat.le_of_ble_eq_true rfl, rfl⟩ ?_
                refine wp.mono H ?_
                rintro v w1 ⟨F80, rfl, rfl, H⟩
                show wp 10 185 (173, [some (vr 297), some (vi (F2 297 22)), some (vi v5), some (vi 0), some (vi (F71 297 24)), some (vi 1), some (vi ((-20) - (F79 297 22)))], [], (Wd S L F80 G h)) _
                refine pt185 (s' := (217, [some (vr 297), some (vi (F2 297 22)), some (vi v5), some (vi 0), some (vi (F71 297 24)), some (vi 1), some (vi ((-20) - (F79 297 22)))], [vi (F71 297 24), vr 297, vr 297], (Wd S L F80 G h))) (by decide) [0, 0, 1, 0, 0, 1, 0, 0, 1, 0, 0] rfl ⟨⟨⟨trivial, ⟨g6, c8⟩⟩, ⟨⟨g6, (by decide : R32 1)⟩, c28⟩⟩, ⟨⟨g6, (by decide : R32 2)⟩, c48⟩⟩ ?_
                refine wp.cl am_m185 rfl am_m163 7 [vr 297, vi (F71 297 24)] [vr 297] rfl (Nat.le_of_ble_eq_true rfl) (Nat.le_of_ble_eq_true rfl) rfl (Nat.le_of_ble_eq_true rfl) rfl (Nat.le_of_ble_eq_true rfl) (Nat.le_of_ble_eq_true rfl) ⟨_, _, rfl, Nat.le_of_ble_eq_true rfl, rfl⟩ ?_
                refine wp.mono H ?_
                rintro v w1 ⟨v81, F82, rfl, rfl, H⟩
                show wp 10 185 (220, [some (vr 297), some (vi (F2 297 22)), some (vi v5), some (vi 0), some (vi (F71 297 24)), some (vi 1), some (vi ((-20) - (F79 297 22)))], [vi v81, vr 297], (Wd S L F82 G h)) _
                refine wp.cl am_m185 rfl am_m157 7 [vr 297, vi v81] [] rfl (Nat.le_of_ble_eq_true rfl) (Nat.le_of_ble_eq_true rfl) rfl (Nat.le_of_ble_eq_true rfl) rfl (Nat.le_of_ble_eq_true rfl) (Nat.le_of_ble_eq_true rfl) ⟨_, _, rfl, Nat.le_of_ble_eq_true rfl, rfl⟩ ?_
                obtain ⟨g83, H⟩ := H
                refine pt157 (s' := (1, [some (vr 297), some (vi v81)], [vi v81], (Wd S L F82 G h))) (by decide) [0] rfl trivial ?_
                by_cases c84 : v81 < 0
                · rw [if_pos c84] at H
                  refine pt157 (s' := (9, [some (vr 297), some (vi v81)], [vi v81], (Wd S L F82 G h))) (by decide) [1, 0] rfl ⟨trivial, ⟨g83, c84⟩⟩ ?_
                  refine wp.fin (v := some (vi v81)) (by decide) am_m157 rfl ⟨_, rfl, Or.inl rfl, rfl⟩ ?_
                  show wp 10 185 (223, [some (vr 297), some (vi (F2 297 22)), some (vi v5), some (vi 0), some (vi (F71 297 24)), some (vi 1), some (vi ((-20) - (F79 297 22)))], [vi v81], (Wd S L F82 G h)) _
                  exact wp.fin (v := some (vi v81)) (by decide) am_m185 rfl ⟨_, rfl, Or.inl rfl, rfl⟩ H
                · rw [if_neg c84] at H
                  refine pt157 (s' := (5, [some (vr 297), some (vi v81)], [vr 297], (Wd S L F82 G h))) (by decide) [0, 0] rfl ⟨trivial, ⟨g83, c84⟩⟩ ?_
                  refine wp.cl am_m157 rfl am_m156 6 [vr 297] [] rfl (Nat.le_of_ble_eq_true rfl) (Nat.le_of_ble_eq_true rfl) rfl (Nat.le_of_ble_eq_true rfl) rfl (Nat.le_of_ble_eq_true rfl) (Nat.le_of_ble_eq_true rfl) ⟨_, _, rfl, Nat.le_of_ble_eq_true rfl, rfl⟩ ?_
                  refine wp.mono H ?_
                  rintro v w1 ⟨F85, rfl, rfl, H⟩
                  show wp 7 157 (8, [some (vr 297), some (vi v81)], [], (Wd S L F85 G h)) _
                  refine pt157 (s' := (9, [some (vr 297), some (vi v81)], [vi v81], (Wd S L F85 G h))) (by decide) [0] rfl trivial ?_
                  refine wp.fin (v := some (vi v81)) (by decide) am_m157 rfl ⟨_, rfl, Or.inl rfl, rfl⟩ ?_
                  show wp 10 185 (223, [some (vr 297), some (vi (F2 297 22)), some (vi v5), some (vi 0), some (vi (F71 297 24)), some (vi 1), some (vi ((-20) - (F79 297 22)))], [vi v81], (Wd S L F85 G h)) _
                  exact wp.fin (v := some (vi v81)) (by decide) am_m185 rfl ⟨_, rfl, Or.inl rfl, rfl⟩ H
              · rw [if_neg c77] at H
                refine pt185 (s' := (135, [some (vr 297), some (vi (F2 297 22)), some (vi v5), some (vi 0), some (vi (F71 297 24)), some (vi 0), none], [vr 297], (Wd S L F75 G h))) (by decide) [1, 0, 0, 0] rfl ⟨trivial, ⟨g76, c77⟩⟩ ?_
                refine wp.cl am_m185 rfl am_m172 7 [vr 297] [] rfl (Nat.le_of_ble_eq_true rfl) (Nat.le_of_ble_eq_true rfl) rfl (Nat.le_of_ble_eq_true rfl) rfl (Nat.le_of_ble_eq_true rfl) (Nat.le_of_ble_eq_true rfl) ⟨_, _, rfl, Nat.le_of_ble_eq_true rfl, rfl⟩ ?_
                refine wp.mono H ?_
                rintro v w1 ⟨v86, F87, rfl, rfl, H⟩
                show wp 10 185 (138, [some (vr 297), some (vi (F2 297 22)), some (vi v5), some (vi 0), some (vi (F71 297 24)), some (vi 0), none], [vi v86], (Wd S L F87 G h)) _
                refine pt185 (s' := (168, [some (vr 297), some (vi (F2 297 22)), some (vi v5), some (vi 0), some (vi (F71 297 24)), some (vi 0), some (vi ((-20) - (F87 297 22)))], [vi ((-20) - (F87 297 22))], (Wd S L (am_up F87 297 7 0) G h))) (by decide) [0, 0, 0, 1, 0, 0, 0, 0, 0, 0, 0, 0, 0, 0] rfl ⟨⟨⟨⟨trivial, ⟨g6, c7⟩⟩, ⟨Nat.le_of_ble_eq_true rfl, rfl⟩⟩, ⟨Nat.le_of_ble_eq_true rfl, rfl, fun h => by cases h⟩⟩, ⟨(by decide : R32 0), (by decide : (0 : Int) = (0 : Int))⟩⟩ ?_
                exact wp.fin (v := some (vi ((-20) - (F87 297 22)))) (by decide) am_m185 rfl ⟨_, rfl, Or.inl rfl, rfl⟩ H
            · rw [if_neg c73] at H
              refine pt185 (s' := (135, [some (vr 297), some (vi (F2 297 22)), some (vi v5), some (vi 0), some (vi (F71 297 24)), some (vi 0), none], [vr 297], (Wd S L F71 G h))) (by decide) [1, 0, 0, 0] rfl ⟨trivial, ⟨g72, c73⟩⟩ ?_
              refine wp.cl am_m185 rfl am_m172 7 [vr 297] [] rfl (Nat.le_of_ble_eq_true rfl) (Nat.le_of_ble_eq_true rfl) rfl (Nat.le_of_ble_eq_true rfl) rfl (Nat.le_of_ble_eq_true rfl) (Nat.le_of_ble_eq_true rfl) ⟨_, _, rfl, Nat.le_of_ble_eq_true rfl, rfl⟩ ?_
              refine wp.mono H ?_
              rintro v w1 ⟨v88, F89, rfl, rfl, H⟩
              show wp 10 185 (138, [some (vr 297), some (vi (F2 297 22)), some (vi v5), some (vi 0), some (vi (F71 297 24)), some (vi 0), none], [vi v88], (Wd S L F89 G h)) _
              refine pt185 (s' := (168, [some (vr 297), some (vi (F2 297 22)), some (vi v5), some (vi 0), some (vi (F71 297 24)), some (vi 0), some (vi ((-20) - (F89 297 22)))], [vi ((-20) - (F89 297 22))], (Wd S L (am_up F89 297 7 0) G h))) (by decide) [0, 0, 0, 1, 0, 0, 0, 0, 0, 0, 0, 0, 0, 0] rfl ⟨⟨⟨⟨trivial, ⟨g6, c7⟩⟩, ⟨Nat.le_of_ble_eq_true rfl, rfl⟩⟩, ⟨Nat.le_of_ble_eq_true rfl, rfl, fun h => by cases h⟩⟩, ⟨(by decide : R32 0), (by decide : (0 : Int) = (0 : Int))⟩⟩ ?_
              exact wp.fin (v := some (vi ((-20) - (F89 297 22)))) (by decide) am_m185 rfl ⟨_, rfl, Or.inl rfl, rfl⟩ H
          · rw [if_neg c70] at H
            obtain ⟨g90, H⟩ := H
            refine pt185 (s' := (117, [some (vr 297), some (vi (F2 297 22)), some (vi v5), some (vi 0), some (vi (F4 297 24)), none, none], [vi (F4 297 23)], (Wd S L F4 G h))) (by decide) [1, 0, 0, 0, 0, 0] rfl ⟨⟨⟨trivial, ⟨⟨g6, (by decide : R32 3)⟩, c70⟩⟩, ⟨Nat.le_of_ble_eq_true rfl, rfl⟩⟩, ⟨Nat.le_of_ble_eq_true rfl, rfl⟩⟩ ?_
            by_cases c91 : (F4 297 23) = 0
            · rw [if_pos c91] at H
              refine pt185 (s' := (121, [some (vr 297), some (vi (F2 297 22)), some (vi v5), some (vi 0), some (vi (F4 297 24)), none, none], [vr 297], (Wd S L F4 G h))) (by decide) [0, 0] rfl ⟨trivial, ⟨g90, c91⟩⟩ ?_
              refine wp.cl am_m185 rfl am_m172 7 [vr 297] [] rfl (Nat.le_of_ble_eq_true rfl) (Nat.le_of_ble_eq_true rfl) rfl (Nat.le_of_ble_eq_true rfl) rfl (Nat.le_of_ble_eq_true rfl) (Nat.le_of_ble_eq_true rfl) ⟨_, _, rfl, Nat.le_of_ble_eq_true rfl, rfl⟩ ?_
              refine wp.mono H ?_
              rintro v w1 ⟨v92, F93, rfl, rfl, H⟩
              show wp 10 185 (124, [some (vr 297), some (vi (F2 297 22)), some (vi v5), some (vi 0), some (vi (F4 297 24)), none, none], [vi v92], (Wd S L F93 G h)) _
              obtain ⟨g94, H⟩ := H
              by_cases c95 : v92 = 0
              · rw [if_pos c95] at H
                refine pt185 (s' := (135, [some (vr 297), some (vi (F2 297 22)), some (vi v5), some (vi 0), some (vi (F4 297 24)), some (vi 1), none], [vr 297], (Wd S L F93 G h))) (by decide) [0, 0, 0, 0, 0] rfl ⟨trivial, ⟨g94, c95⟩⟩ ?_
                refine wp.cl am_m185 rfl am_m172 7 [vr 297] [] rfl (Nat.le_of_ble_eq_true rfl) (Nat.le_of_ble_eq_true rfl) rfl (Nat.le_of_ble_eq_true rfl) rfl (Nat.le_of_ble_eq_true rfl) (Nat.le_of_ble_eq_true rfl) ⟨_, _, rfl, Nat.le_of_ble_eq_true rfl, rfl⟩ ?_
                refine wp.mono H ?_
                rintro v w1 ⟨v96, F97, rfl, rfl, H⟩
                show wp 10 185 (138, [some (vr 297), some (vi (F2 297 22)), some (vi v5), some (vi 0), some (vi (F4 297 24)), some (vi 1), none], [vi v96], (Wd S L F97 G h)) _
                refine pt185 (s' := (170, [some (vr 297), some (vi (F2 297 22)), some (vi v5), some (vi 0), some (vi (F4 297 24)), some (vi 1), some (vi ((-20) - (F97 297 22)))], [vr 297], (Wd S L (am_up F97 297 7 0) G h))) (by decide) [0, 0, 0, 1, 0, 0, 0, 0, 0, 0, 0, 0, 1, 0] rfl ⟨⟨⟨⟨trivial, ⟨g6, c7⟩⟩, ⟨Nat.le_of_ble_eq_true rfl, rfl⟩⟩, ⟨Nat.le_of_ble_eq_true rfl, rfl, fun h => by cases h⟩⟩, ⟨(by decide : R32 1), (by decide : ¬ (1 : Int) = (0 : Int))⟩⟩ ?_
                refine wp.cl am_m185 rfl am_m155 6 [vr 297] [] rfl (Nat.le_of_ble_eq_true rfl) (Nat.le_of_ble_eq_true rfl) rfl (Nat.le_of_ble_eq_true rfl) rfl (Nat.le_of_ble_eq_true rfl) (Nat.le_of_ble_eq_true rfl) ⟨_, _, rfl, Nat.le_of_ble_eq_true rfl, rfl⟩ ?_
                refine wp.mono H ?_
                rintro v w1 ⟨F98, rfl, rfl, H⟩
                show wp 10 185 (173, [some (vr 297), some (vi (F2 297 22)), some (vi v5), some (vi 0), some (vi (F4 297 24)), some (vi 1), some (vi ((-20) - (F97 297 22)))], [], (Wd S L F98 G h)) _
                refine pt185 (s' := (217, [some (vr 297), some (vi (F2 297 22)), some (vi v5), some (vi 0), some (vi (F4 297 24)), some (vi 1), some (vi ((-20) - (F97 297 22)))], [vi (F4 297 24), vr 297, vr 297], (Wd S L F98 G h))) (by decide) [0, 0, 1, 0, 0, 1, 0, 0, 1, 0, 0] rfl ⟨⟨⟨trivial, ⟨g6, c8⟩⟩, ⟨⟨g6, (by decide : R32 1)⟩, c28⟩⟩, ⟨⟨g6, (by decide : R32 2)⟩, c48⟩⟩ ?_
                refine wp.cl am_m185 rfl am_m163 7 [vr 297, vi (F4 297 24)] [vr 297] rfl (Nat.le_of_ble_eq_true rfl) (Nat.le_of_ble_eq_true rfl) rfl (Nat.le_of_ble_eq_true rfl) rfl (Nat.le_of_ble_eq_true rfl) (Nat.le_of_ble_eq_true rfl) ⟨_, _, rfl, Nat.le_of_ble_eq_true rfl, rfl⟩ ?_
                refine wp.mono H ?_
                rintro v w1 ⟨v99, F100, rfl, rfl, H⟩
                show wp 10 185 (220, [some (vr 297), some (vi (F2 297 22)), some (vi v5), some (vi 0), some (vi (F4 297 24)), some (vi 1), some (vi ((-20) - (F97 297 22)))], [vi v99, vr 297], (Wd S L F100 G h)) _
                refine wp.cl am_m185 rfl am_m157 7 [vr 297, vi v99] [] rfl (Nat.le_of_ble_eq_true rfl) (Nat.le_of_ble_eq_true rfl) rfl (Nat.le_of_ble_eq_true rfl) rfl (Nat.le_of_ble_eq_true rfl) (Nat.le_of_ble_eq_true rfl) ⟨_, _, rfl, Nat.le_of_ble_eq_true rfl, rfl⟩ ?_
                obtain ⟨g101, H⟩ := H
                refine pt157 (s' := (1, [some (vr 297), some (vi v99)], [vi v99], (Wd S L F100 G h))) (by decide) [0] rfl trivial ?_
                by_cases c102 : v99 < 0
                · rw [if_pos c102] at H
                  refine pt157 (s' := (9, [some (vr 297), some (vi v99)], [vi v99], (Wd S L F100 G h))) (by decide) [1, 0] rfl ⟨trivial, ⟨g101, c102⟩⟩ ?_
                  refine wp.fin (v := some (vi v99)) (by decide) am_m157 rfl ⟨_, rfl, Or.inl rfl, rfl⟩ ?_
                  show wp 10 185 (223, [some (vr 297), some (vi (F2 297 22)), some (vi v5), some (vi 0), some (vi (F4 297 24)), some (vi 1), some (vi ((-20) - (F97 297 22)))], [vi v99], (Wd S L F100 G h)) _
                  exact wp.fin (v := some (vi v99)) (by decide) am_m185 rfl ⟨_, rfl, Or.inl rfl, rfl⟩ H
                · rw [if_neg c102] at H
                  refine pt157 (s' := (5, [some (vr 297), some (vi v99)], [vr 297], (Wd S L F100 G h))) (by decide) [0, 0] rfl ⟨trivial, ⟨g101, c102⟩⟩ ?_
                  refine wp.cl am_m157 rfl am_m156 6 [vr 297] [] rfl (Nat.le_of_ble_eq_true rfl) (Nat.le_of_ble_eq_true rfl) rfl (Nat.le_of_ble_eq_true rfl) rfl (Nat.le_of_ble_eq_true rfl) (Nat.le_of_ble_eq_true rfl) ⟨_, _, rfl, Nat.le_of_ble_eq_true rfl, rfl⟩ ?_
                  refine wp.mono H ?_
                  rintro v w1 ⟨F103, rfl, rfl, H⟩
                  show wp 7 157 (8, [some (vr 297), some (vi v99)], [], (Wd S L F103 G h)) _
                  refine pt157 (s' := (9, [some (vr 297), some (vi v99)], [vi v99], (Wd S L F103 G h))) (by decide) [0] rfl trivial ?_
                  refine wp.fin (v := some (vi v99)) (by decide) am_m157 rfl ⟨_, rfl, Or.inl rfl, rfl⟩ ?_
                  show wp 10 185 (223, [some (vr 297), some (vi (F2 297 22)), some (vi v5), some (vi 0), some (vi (F4 297 24)), some (vi 1), some (vi ((-20) - (F97 297 22)))], [vi v99], (Wd S L F103 G h)) _
                  exact wp.fin (v := some (vi v99)) (by decide) am_m185 rfl ⟨_, rfl, Or.inl rfl, rfl⟩ H
              · rw [if_neg c95] at H
                refine pt185 (s' := (135, [some (vr 297), some (vi (F2 297 22)), some (vi v5), some (vi 0), some (vi (F4 297 24)), some (vi 0), none], [vr 297], (Wd S L F93 G h))) (by decide) [1, 0, 0, 0] rfl ⟨trivial, ⟨g94, c95⟩⟩ ?_
                refine wp.cl am_m185 rfl am_m172 7 [vr 297] [] rfl (Nat.le_of_ble_eq_true rfl) (Nat.le_of_ble_eq_true rfl) rfl (Nat.le_of_ble_eq_true rfl) rfl (Nat.le_of_ble_eq_true rfl) (Nat.le_of_ble_eq_true rfl) ⟨_, _, rfl, Nat.le_of_ble_eq_true rfl, rfl⟩ ?_
                refine wp.mono H ?_
                rintro v w1 ⟨v104, F105, rfl, rfl, H⟩
                show wp 10 185 (138, [some (vr 297), some (vi (F2 297 22)), some (vi v5), some (vi 0), some (vi (F4 297 24)), some (vi 0), none], [vi v104], (Wd S L F105 G h)) _
                refine pt185 (s' := (168, [some (vr 297), some (vi (F2 297 22)), some (vi v5), some (vi 0), some (vi (F4 297 24)), some (vi 0), some (vi ((-20) - (F105 297 22)))], [vi ((-20) - (F105 297 22))], (Wd S L (am_up F105 297 7 0) G h))) (by decide) [0, 0, 0, 1, 0, 0, 0, 0, 0, 0, 0, 0, 0, 0] rfl ⟨⟨⟨⟨trivial, ⟨g6, c7⟩⟩, ⟨Nat.le_of_ble_eq_true rfl, rfl⟩⟩, ⟨Nat.le_of_ble_eq_true rfl, rfl, fun h => by cases h⟩⟩, ⟨(by decide : R32 0), (by decide : (0 : Int) = (0 : Int))⟩⟩ ?_
                exact wp.fin (v := some (vi ((-20) - (F105 297 22)))) (by decide) am_m185 rfl ⟨_, rfl, Or.inl rfl, rfl⟩ H
            · rw [if_neg c91] at H
              refine pt185 (s' := (135, [some (vr 297), some (vi (F2 297 22)), some (vi v5), some (vi 0), some (vi (F4 297 24)), some (vi 0), none], [vr 297], (Wd S L F4 G h))) (by decide) [1, 0, 0, 0] rfl ⟨trivial, ⟨g90, c91⟩⟩ ?_
              refine wp.cl am_m185 rfl am_m172 7 [vr 297] [] rfl (Nat.le_of_ble_eq_true rfl) (Nat.le_of_ble_eq_true rfl) rfl (Nat.le_of_ble_eq_true rfl) rfl (Nat.le_of_ble_eq_true rfl) (Nat.le_of_ble_eq_true rfl) ⟨_, _, rfl, Nat.le_of_ble_eq_true rfl, rfl⟩ ?_
              refine wp.mono H ?_
              rintro v w1 ⟨v106, F107, rfl, rfl, H⟩
              show wp 10 185 (138, [some (vr 297), some (vi (F2 297 22)), some (vi v5), some (vi 0), some (vi (F4 297 24)), some (vi 0), none], [vi v106], (Wd S L F107 G h)) _
              refine pt185 (s' := (168, [some (vr 297), some (vi (F2 297 22)), some (vi v5), some (vi 0), some (vi (F4 297 24)), some (vi 0), some (vi ((-20) - (F107 297 22)))], [vi ((-20) - (F107 297 22))], (Wd S L (am_up F107 297 7 0) G h))) (by decide) [0, 0, 0, 1, 0, 0, 0, 0, 0, 0, 0, 0, 0, 0] rfl ⟨⟨⟨⟨trivial, ⟨g6, c7⟩⟩, ⟨Nat.le_of_ble_eq_true rfl, rfl⟩⟩, ⟨Nat.le_of_ble_eq_true rfl, rfl, fun h => by cases h⟩⟩, ⟨(by decide : R32 0), (by decide : (0 : Int) = (0 : Int))⟩⟩ ?_
              exact wp.fin (v := some (vi ((-20) - (F107 297 22)))) (by decide) am_m185 rfl ⟨_, rfl, Or.inl rfl, rfl⟩ H
  · rw [if_neg c7] at H
    refine pt185 (s' := (45, [some (vr 297), some (vi (F2 297 22)), some (vi v5), some (vi 0), none, none, none], [vi v5], (Wd S L (am_up (am_up F4 297 23 1) 297 22 (F2 297 22)) G h))) (by decide) [0, 0, 0, 0, 0, 0, 0, 0, 0, 0] rfl ⟨⟨⟨trivial, ⟨g6, c7⟩⟩, ⟨Nat.le_of_ble_eq_true rfl, rfl, fun _ => Or.inr rfl⟩⟩, ⟨Nat.le_of_ble_eq_true rfl, rfl, fun h => by cases h⟩⟩ ?_
    by_cases c108 : v5 = 0
    · rw [if_pos c108] at H
      refine pt185 (s' := (49, [some (vr 297), some (vi (F2 297 22)), some (vi v5), some (vi 0), none, none, none], [vr 297], (Wd S L (am_up (am_up F4 297 23 1) 297 22 (F2 297 22)) G h))) (by decide) [0, 0] rfl ⟨trivial, ⟨g6, c108⟩⟩ ?_
      refine wp.cl am_m185 rfl am_m178 9 [vr 297] [] rfl (Nat.le_of_ble_eq_true rfl) (Nat.le_of_ble_eq_true rfl) rfl (Nat.le_of_ble_eq_true rfl) rfl (Nat.le_of_ble_eq_true rfl) (Nat.le_of_ble_eq_true rfl) ⟨_, _, rfl, Nat.le_of_ble_eq_true rfl, rfl⟩ ?_
      refine wp.mono H ?_
      rintro v w1 ⟨F109, rfl, rfl, H⟩
      show wp 10 185 (52, [some (vr 297), some (vi (F2 297 22)), some (vi v5), some (vi 0), none, none, none], [], (Wd S L F109 G h)) _
      obtain ⟨g110, H⟩ := H
      refine pt185 (s' := (117, [some (vr 297), some (vi (F2 297 22)), some (vi v5), some (vi 0), some (vi (F109 297 24)), none, none], [vi (F109 297 23)], (Wd S L F109 G h))) (by decide) [0, 0, 0, 0, 0, 0] rfl ⟨⟨trivial, ⟨Nat.le_of_ble_eq_true rfl, rfl⟩⟩, ⟨Nat.le_of_ble_eq_true rfl, rfl⟩⟩ ?_
      by_cases c111 : (F109 297 23) = 0
      · rw [if_pos c111] at H
        refine pt185 (s' := (121, [some (vr 297), some (vi (F2 297 22)), some (vi v5), some (vi 0), some (vi (F109 297 24)), none, none], [vr 297], (Wd S L F109 G h))) (by decide) [0, 0] rfl ⟨trivial, ⟨g110, c111⟩⟩ ?_
        refine wp.cl am_m185 rfl am_m172 7 [vr 297] [] rfl (Nat.le_of_ble_eq_true rfl) (Nat.le_of_ble_eq_true rfl) rfl (Nat.le_of_ble_eq_true rfl) rfl (Nat.le_of_ble_eq_true rfl) (Nat.le_of_ble_eq_true rfl) ⟨_, _, rfl, Nat.le_of_ble_eq_true rfl, rfl⟩ ?_
        refine wp.mono H ?_
        rintro v w1 ⟨v112, F113, rfl, rfl, H⟩
        show wp 10 185 (124, [some (vr 297), some (vi (F2 297 22)), some (vi v5), some (vi 0), some (vi (F109 297 24)), none, none], [vi v112], (Wd S L F113 G h)) _
        obtain ⟨g114, H⟩ := H
        by_cases c115 : v112 = 0
        · rw [if_pos c115] at H
          refine pt185 (s' := (135, [some (vr 297), some (vi (F2 297 22)), some (vi v5), some (vi 0), some (vi (F109 297 24)), some (vi 1), none], [vr 297], (Wd S L F113 G h))) (by decide) [0, 0, 0, 0, 0] rfl ⟨trivial, ⟨g114, c115⟩⟩ ?_
          refine wp.cl am_m185 rfl am_m172 7 [vr 297] [] rfl (Nat.le_of_ble_eq_true rfl) (Nat.le_of_ble_eq_true rfl) rfl (Nat.le_of_ble_eq_true rfl) rfl (Nat.le_of_ble_eq_true rfl) (Nat.le_of_ble_eq_true rfl) ⟨_, _, rfl, Nat.le_of_ble_eq_true rfl, rfl⟩ ?_
          refine wp.mono H ?_
          rintro v w1 ⟨v116, F117, rfl, rfl, H⟩
          show wp 10 185 (138, [some (vr 297), some (vi (F2 297 22)), some (vi v5), some (vi 0), some (vi (F109 297 24)), some (vi 1), none], [vi v116], (Wd S L F117 G h)) _
          refine pt185 (s' := (170, [some (vr 297), some (vi (F2 297 22)), some (vi v5), some (vi 0), some (vi (F109 297 24)), some (vi 1), some (vi ((-20) - (F2 297 22)))], [vr 297], (Wd S L (am_up F117 297 7 0) G h))) (by decide) [0, 0, 0, 0, 0, 0, 0, 0, 0, 0, 0, 0, 1, 0] rfl ⟨⟨⟨trivial, ⟨g6, c7⟩⟩, ⟨Nat.le_of_ble_eq_true rfl, rfl, fun h => by cases h⟩⟩, ⟨(by decide : R32 1), (by decide : ¬ (1 : Int) = (0 : Int))⟩⟩ ?_
          refine wp.cl am_m185 rfl am_m155 6 [vr 297] [] rfl (Nat.le_of_ble_eq_true rfl) (Nat.le_of_ble_eq_true rfl) rfl (Nat.le_of_ble_eq_true rfl) rfl (Nat.le_of_ble_eq_true rfl) (Nat.le_of_ble_eq_true rfl) ⟨_, _, rfl, Nat.le_of_ble_eq_true rfl, rfl⟩ ?_
          refine wp.mono H ?_
          rintro v w1 ⟨F118, rfl, rfl, H⟩
          show wp 10 185 (173, [some (vr 297), some (vi (F2 297 22)), some (vi v5), some (vi 0), some (vi (F109 297 24)), some (vi 1), some (vi ((-20) - (F2 297 22)))], [], (Wd S L F118 G h)) _
          refine pt185 (s' := (179, [some (vr 297), some (vi (F2 297 22)), some (vi v5), some (vi 0), some (vi (F109 297 24)), some (vi 1), some (vi ((-20) - (F2 297 22)))], [vr 297, vr 297], (Wd S L F118 G h))) (by decide) [0, 0, 0, 0] rfl ⟨trivial, ⟨g6, c108⟩⟩ ?_
          refine wp.cl am_m185 rfl am_m181 7 [vr 297] [vr 297] rfl (Nat.le_of_ble_eq_true rfl) (Nat.le_of_ble_eq_true rfl) rfl (Nat.le_of_ble_eq_true rfl) rfl (Nat.le_of_ble_eq_true rfl) (Nat.le_of_ble_eq_true rfl) ⟨_, _, rfl, Nat.le_of_ble_eq_true rfl, rfl⟩ ?_
          refine wp.mono H ?_
          rintro v w1 ⟨v119, F120, rfl, rfl, H⟩
          show wp 10 185 (182, [some (vr 297), some (vi (F2 297 22)), some (vi v5), some (vi 0), some (vi (F109 297 24)), some (vi 1), some (vi ((-20) - (F2 297 22)))], [vi v119, vr 297], (Wd S L F120 G h)) _
          refine pt185 (s' := (220, [some (vr 297), some (vi (F2 297 22)), some (vi v5), some (vi 0), some (vi (F109 297 24)), some (vi 1), some (vi ((-20) - (F2 297 22)))], [vi v119, vr 297], (Wd S L F120 G h))) (by decide) [0] rfl trivial ?_
          refine wp.cl am_m185 rfl am_m157 7 [vr 297, vi v119] [] rfl (Nat.le_of_ble_eq_true rfl) (Nat.le_of_ble_eq_true rfl) rfl (Nat.le_of_ble_eq_true rfl) rfl (Nat.le_of_ble_eq_true rfl) (Nat.le_of_ble_eq_true rfl) ⟨_, _, rfl, Nat.le_of_ble_eq_true rfl, rfl⟩ ?_
          obtain ⟨g121, H⟩ := H
          refine pt157 (s' := (1, [some (vr 297), some (vi v119)], [vi v119], (Wd S L F120 G h))) (by decide) [0] rfl trivial ?_
          by_cases c122 : v119 < 0
          · rw [if_pos c122] at H
            refine pt157 (s' := (9, [some (vr 297), some (vi v119)], [vi v119], (Wd S L F120 G h))) (by decide) [1, 0] rfl ⟨trivial, ⟨g121, c122⟩⟩ ?_
            refine wp.fin (v := some (vi v119)) (by decide) am_m157 rfl ⟨_, rfl, Or.inl rfl, rfl⟩ ?_
            show wp 10 185 (223, [some (vr 297), some (vi (F2 297 22)), some (vi v5), some (vi 0), some (vi (F109 297 24)), some (vi 1), some (vi ((-20) - (F2 297 22)))], [vi v119], (Wd S L F120 G h)) _
            exact wp.fin (v := some (vi v119)) (by decide) am_m185 rfl ⟨_, rfl, Or.inl rfl, rfl⟩ H
          · rw [if_neg c122] at H
            refine pt157 (s' := (5, [some (vr 297), some (vi v119)], [vr 297], (Wd S L F120 G h))) (by decide) [0, 0] rfl ⟨trivial, ⟨g121, c122⟩⟩ ?_
            refine wp.cl am_m157 rfl am_m156 6 [vr 297] [] rfl (Nat.le_of_ble_eq_true rfl) (Nat.le_of_ble_eq_true rfl) rfl (Nat.le_of_ble_eq_true rfl) rfl (Nat.le_of_ble_eq_true rfl) (Nat.le_of_ble_eq_true rfl) ⟨_, _, rfl, Nat.le_of_ble_eq_true rfl, rfl⟩ ?_
            refine wp.mono H ?_
            rintro v w1 ⟨F123, rfl, rfl, H⟩
            show wp 7 157 (8, [some (vr 297), some (vi v119)], [], (Wd S L F123 G h)) _
            refine pt157 (s' := (9, [some (vr 297), some (vi v119)], [vi v119], (Wd S L F123 G h))) (by decide) [0] rfl trivial ?_
            refine wp.fin (v := some (vi v119)) (by decide) am_m157 rfl ⟨_, rfl, Or.inl rfl, rfl⟩ ?_
            show wp 10 185 (223, [some (vr 297), some (vi (F2 297 22)), some (vi v5), some (vi 0), some (vi (F109 297 24)), some (vi 1), some (vi ((-20) - (F2 297 22)))], [vi v119], (Wd S L F123 G h)) _
            exact wp.fin (v := some (vi v119)) (by decide) am_m185 rfl ⟨_, rfl, Or.inl rfl, rfl⟩ H
        · rw [if_neg c115] at H
          refine pt185 (s' := (135, [some (vr 297), some (vi (F2 297 22)), some (vi v5), some (vi 0), some (vi (F109 297 24)), some (vi 0), none], [vr 297], (Wd S L F113 G h))) (by decide) [1, 0, 0, 0] rfl ⟨trivial, ⟨g114, c115⟩⟩ ?_
          refine wp.cl am_m185 rfl am_m172 7 [vr 297] [] rfl (Nat.le_of_ble_eq_true rfl) (Nat.le_of_ble_eq_true rfl) rfl (Nat.le_of_ble_eq_true rfl) rfl (Nat.le_of_ble_eq_true rfl) (Nat.le_of_ble_eq_true rfl) ⟨_, _, rfl, Nat.le_of_ble_eq_true rfl, rfl⟩ ?_
          refine wp.mono H ?_
          rintro v w1 ⟨v124, F125, rfl, rfl, H⟩
          show wp 10 185 (138, [some (vr 297), some (vi (F2 297 22)), some (vi v5), some (vi 0), some (vi (F109 297 24)), some (vi 0), none], [vi v124], (Wd S L F125 G h)) _
          refine pt185 (s' := (168, [some (vr 297), some (vi (F2 297 22)), some (vi v5), some (vi 0), some (vi (F109 297 24)), some (vi 0), some (vi ((-20) - (F2 297 22)))], [vi ((-20) - (F2 297 22))], (Wd S L (am_up F125 297 7 0) G h))) (by decide) [0, 0, 0, 0, 0, 0, 0, 0, 0, 0, 0, 0, 0, 0] rfl ⟨⟨⟨trivial, ⟨g6, c7⟩⟩, ⟨Nat.le_of_ble_eq_true rfl, rfl, fun h => by cases h⟩⟩, ⟨(by decide : R32 0), (by decide : (0 : Int) = (0 : Int))⟩⟩ ?_
          exact wp.fin (v := some (vi ((-20) - (F2 297 22)))) (by decide) am_m185 rfl ⟨_, rfl, Or.inl rfl, rfl⟩ H
      · rw [if_neg c111] at H
        refine pt185 (s' := (135, [some (vr 297), some (vi (F2 297 22)), some (vi v5), some (vi 0), some (vi (F109 297 24)), some (vi 0), none], [vr 297], (Wd S L F109 G h))) (by decide) [1, 0, 0, 0] rfl ⟨trivial, ⟨g110, c111⟩⟩ ?_
        refine wp.cl am_m185 rfl am_m172 7 [vr 297] [] rfl (Nat.le_of_ble_eq_true rfl) (Nat.le_of_ble_eq_true rfl) rfl (Nat.le_of_ble_eq_true rfl) rfl (Nat.le_of_ble_eq_true rfl) (Nat.le_of_ble_eq_true rfl) ⟨_, _, rfl, Nat.le_of_ble_eq_true rfl, rfl⟩ ?_
        refine wp.mono H ?_
        rintro v w1 ⟨v126, F127, rfl, rfl, H⟩
        show wp 10 185 (138, [some (vr 297), some (vi (F2 297 22)), some (vi v5), some (vi 0), some (vi (F109 297 24)), some (vi 0), none], [vi v126], (Wd S L F127 G h)) _
        refine pt185 (s' := (168, [some (vr 297), some (vi (F2 297 22)), some (vi v5), some (vi 0), some (vi (F109 297 24)), some (vi 0), some (vi ((-20) - (F2 297 22)))], [vi ((-20) - (F2 297 22))], (Wd S L (am_up F127 297 7 0) G h))) (by decide) [0, 0, 0, 0, 0, 0, 0, 0, 0, 0, 0, 0, 0, 0] rfl ⟨⟨⟨trivial, ⟨g6, c7⟩⟩, ⟨Nat.le_of_ble_eq_true rfl, rfl, fun h => by cases h⟩⟩, ⟨(by decide : R32 0), (by decide : (0 : Int) = (0 : Int))⟩⟩ ?_
        exact wp.fin (v := some (vi ((-20) - (F2 297 22)))) (by decide) am_m185 rfl ⟨_, rfl, Or.inl rfl, rfl⟩ H
    · rw [if_neg c108] at H
      refine pt185 (s' := (57, [some (vr 297), some (vi (F2 297 22)), some (vi v5), some (vi 0), none, none, none], [vi 1, vi v5], (Wd S L (am_up (am_up F4 297 23 1) 297 22 (F2 297 22)) G h))) (by decide) [1, 0, 0] rfl ⟨trivial, ⟨g6, c108⟩⟩ ?_
      by_cases c128 : v5 = 1
      · rw [if_pos c128] at H
        refine pt185 (s' := (61, [some (vr 297), some (vi (F2 297 22)), some (vi v5), some (vi 0), none, none, none], [vr 297], (Wd S L (am_up (am_up F4 297 23 1) 297 22 (F2 297 22)) G h))) (by decide) [0, 0] rfl ⟨trivial, ⟨⟨g6, (by decide : R32 1)⟩, c128⟩⟩ ?_
        refine wp.cl am_m185 rfl am_m179 9 [vr 297] [] rfl (Nat.le_of_ble_eq_true rfl) (Nat.le_of_ble_eq_true rfl) rfl (Nat.le_of_ble_eq_true rfl) rfl (Nat.le_of_ble_eq_true rfl) (Nat.le_of_ble_eq_true rfl) ⟨_, _, rfl, Nat.le_of_ble_eq_true rfl, rfl⟩ ?_
        refine wp.mono H ?_
        rintro v w1 ⟨F129, rfl, rfl, H⟩
        show wp 10 185 (64, [some (vr 297), some (vi (F2 297 22)), some (vi v5), some (vi 0), none, none, none], [], (Wd S L F129 G h)) _
        obtain ⟨g130, H⟩ := H
        refine pt185 (s' := (117, [some (vr 297), some (vi (F2 297 22)), some (vi v5), some (vi 0), some (vi (F129 297 24)), none, none], [vi (F129 297 23)], (Wd S L F129 G h))) (by decide) [0, 0, 0, 0, 0, 0] rfl ⟨⟨trivial, ⟨Nat.le_of_ble_eq_true rfl, rfl⟩⟩, ⟨Nat.le_of_ble_eq_true rfl, rfl⟩⟩ ?_
        by_cases c131 : (F129 297 23) = 0
        · rw [if_pos c131] at H
          refine pt185 (s' := (121, [some (vr 297), some (vi (F2 297 22)), some (vi v5), some (vi 0), some (vi (F129 297 24)), none, none], [vr 297], (Wd S L F129 G h))) (by decide) [0, 0] rfl ⟨trivial, ⟨g130, c131⟩⟩ ?_
          refine wp.cl am_m185 rfl am_m172 7 [vr 297] [] rfl (Nat.le_of_ble_eq_true rfl) (Nat.le_of_ble_eq_true rfl) rfl (Nat.le_of_ble_eq_true rfl) rfl (Nat.le_of_ble_eq_true rfl) (Nat.le_of_ble_eq_true rfl) ⟨_, _, rfl, Nat.le_of_ble_eq_true rfl, rfl⟩ ?_
          refine wp.mono H ?_
          rintro v w1 ⟨v132, F133, rfl, rfl, H⟩
          show wp 10 185 (124, [some (vr 297), some (vi (F2 297 22)), some (vi v5), some (vi 0), some (vi (F129 297 24)), none, none], [vi v132], (Wd S L F133 G h)) _
          obtain ⟨g134, H⟩ := H
          by_cases c135 : v132 = 0
          · rw [if_pos c135] at H
            refine pt185 (s' := (135, [some (vr 297), some (vi (F2 297 22)), some (vi v5), some (vi 0), some (vi (F129 297 24)), some (vi 1), none], [vr 297], (Wd S L F133 G h))) (by decide) [0, 0, 0, 0, 0] rfl ⟨trivial, ⟨g134, c135⟩⟩ ?_
            refine wp.cl am_m185 rfl am_m172 7 [vr 297] [] rfl (Nat.le_of_ble_eq_true rfl) (Nat.le_of_ble_eq_true rfl) rfl (Nat.le_of_ble_eq_true rfl) rfl (Nat.le_of_ble_eq_true rfl) (Nat.le_of_ble_eq_true rfl) ⟨_, _, rfl, Nat.le_of_ble_eq_true rfl, rfl⟩ ?_
            refine wp.mono H ?_
            rintro v w1 ⟨v136, F137, rfl, rfl, H⟩
            show wp 10 185 (138, [some (vr 297), some (vi (F2 297 22)), some (vi v5), some (vi 0), some (vi (F129 297 24)), some (vi 1), none], [vi v136], (Wd S L F137 G h)) _
            refine pt185 (s' := (170, [some (vr 297), some (vi (F2 297 22)), some (vi v5), some (vi 0), some (vi (F129 297 24)), some (vi 1), some (vi ((-20) - (F2 297 22)))], [vr 297], (Wd S L (am_up F137 297 7 0) G h))) (by decide) [0, 0, 0, 0, 0, 0, 0, 0, 0, 0, 0, 0, 1, 0] rfl ⟨⟨⟨trivial, ⟨g6, c7⟩⟩, ⟨Nat.le_of_ble_eq_true rfl, rfl, fun h => by cases h⟩⟩, ⟨(by decide : R32 1), (by decide : ¬ (1 : Int) = (0 : Int))⟩⟩ ?_
            refine wp.cl am_m185 rfl am_m155 6 [vr 297] [] rfl (Nat.le_of_ble_eq_true rfl) (Nat.le_of_ble_eq_true rfl) rfl (Nat.le_of_ble_eq_true rfl) rfl (Nat.le_of_ble_eq_true rfl) (Nat.le_of_ble_eq_true rfl) ⟨_, _, rfl, Nat.le_of_ble_eq_true rfl, rfl⟩ ?_
            refine wp.mono H ?_
            rintro v w1 ⟨F138, rfl, rfl, H⟩
            show wp 10 185 (173, [some (vr 297), some (vi (F2 297 22)), some (vi v5), some (vi 0), some (vi (F129 297 24)), some (vi 1), some (vi ((-20) - (F2 297 22)))], [], (Wd S L F138 G h)) _
            refine pt185 (s' := (193, [some (vr 297), some (vi (F2 297 22)), some (vi v5), some (vi 0), some (vi (F129 297 24)), some (vi 1), some (vi ((-20) - (F2 297 22)))], [vi (F129 297 24), vr 297, vr 297], (Wd S L F138 G h))) (by decide) [0, 0, 1, 0, 0, 0, 0, 0] rfl ⟨⟨trivial, ⟨g6, c108⟩⟩, ⟨⟨g6, (by decide : R32 1)⟩, c128⟩⟩ ?_
            refine wp.cl am_m185 rfl am_m183 8 [vr 297, vi (F129 297 24)] [vr 297] rfl (Nat.le_of_ble_eq_true rfl) (Nat.le_of_ble_eq_true rfl) rfl (Nat.le_of_ble_eq_true rfl) rfl (Nat.le_of_ble_eq_true rfl) (Nat.le_of_ble_eq_true rfl) ⟨_, _, rfl, Nat.le_of_ble_eq_true rfl, rfl⟩ ?_
            refine wp.mono H ?_
            rintro v w1 ⟨v139, F140, rfl, rfl, H⟩
            show wp 10 185 (196, [some (vr 297), some (vi (F2 297 22)), some (vi v5), some (vi 0), some (vi (F129 297 24)), some (vi 1), some (vi ((-20) - (F2 297 22)))], [vi v139, vr 297], (Wd S L F140 G h)) _
            refine pt185 (s' := (220, [some (vr 297), some (vi (F2 297 22)), some (vi v5), some (vi 0), some (vi (F129 297 24)), some (vi 1), some (vi ((-20) - (F2 297 22)))], [vi v139, vr 297], (Wd S L F140 G h))) (by decide) [0] rfl trivial ?_
            refine wp.cl am_m185 rfl am_m157 7 [vr 297, vi v139] [] rfl (Nat.le_of_ble_eq_true rfl) (Nat.le_of_ble_eq_true rfl) rfl (Nat.le_of_ble_eq_true rfl) rfl (Nat.le_of_ble_eq_true rfl) (Nat.le_of_ble_eq_true rfl) ⟨_, _, rfl, Nat.le_of_ble_eq_true rfl, rfl⟩ ?_
            obtain ⟨g141, H⟩ := H
            refine pt157 (s' := (1, [some (vr 297), some (vi v139)], [vi v139], (Wd S L F140 G h))) (by decide) [0] rfl trivial ?_
            by_cases c142 : v139 < 0
            · rw [if_pos c142] at H
              refine pt157 (s' := (9, [some (vr 297), some (vi v139)], [vi v139], (Wd S L F140 G h))) (by decide) [1, 0] rfl ⟨trivial, ⟨g141, c142⟩⟩ ?_
              refine wp.fin (v := some (vi v139)) (by decide) am_m157 rfl ⟨_, rfl, Or.inl rfl, rfl⟩ ?_
              show wp 10 185 (223, [some (vr 297), some (vi (F2 297 22)), some (vi v5), some (vi 0), some (vi (F129 297 24)), some (vi 1), some (vi ((-20) - (F2 297 22)))], [vi v139], (Wd S L F140 G h)) _
              exact wp.fin (v := some (vi v139)) (by decide) am_m185 rfl ⟨_, rfl, Or.inl rfl, rfl⟩ H
            · rw [if_neg c142] at H
              refine pt157 (s' := (5, [some (vr 297), some (vi v139)], [vr 297], (Wd S L F140 G h))) (by decide) [0, 0] rfl ⟨trivial, ⟨g141, c142⟩⟩ ?_
              refine wp.cl am_m157 rfl am_m156 6 [vr 297] [] rfl (Nat.le_of_ble_eq_true rfl) (Nat.le_of_ble_eq_true rfl) rfl (Nat.le_of_ble_eq_true rfl) rfl (Nat.le_of_ble_eq_true rfl) (Nat.le_of_ble_eq_true rfl) ⟨_, _, rfl, Nat.le_of_ble_eq_true rfl, rfl⟩ ?_
              refine wp.mono H ?_
              rintro v w1 ⟨F143, rfl, rfl, H⟩
              show wp 7 157 (8, [some (vr 297), some (vi v139)], [], (Wd S L F143 G h)) _
              refine pt157 (s' := (9, [some (vr 297), some (vi v139)], [vi v139], (Wd S L F143 G h))) (by decide) [0] rfl trivial ?_
              refine wp.fin (v := some (vi v139)) (by decide) am_m157 rfl ⟨_, rfl, Or.inl rfl, rfl⟩ ?_
              show wp 10 185 (223, [some (vr 297), some (vi (F2 297 22)), some (vi v5), some (vi 0), some (vi (F129 297 24)), some (vi 1), some (vi ((-20) - (F2 297 22)))], [vi v139], (Wd S L F143 G h)) _
              exact wp.fin (v := some (vi v139)) (by decide) am_m185 rfl ⟨_, rfl, Or.inl rfl, rfl⟩ H
          · rw [if_neg c135] at H
            refine pt185 (s' := (135, [some (vr 297), some (vi (F2 297 22)), some (vi v5), some (vi 0), some (vi (F129 297 24)), some (vi 0), none], [vr 297], (Wd S L F133 G h))) (by decide) [1, 0, 0, 0] rfl ⟨trivial, ⟨g134, c135⟩⟩ ?_
            refine wp.cl am_m185 rfl am_m172 7 [vr 297] [] rfl (Nat.le_of_ble_eq_true rfl) (Nat.le_of_ble_eq_true rfl) rfl (Nat.le_of_ble_eq_true rfl) rfl (Nat.le_of_ble_eq_true rfl) (Nat.le_of_ble_eq_true rfl) ⟨_, _, rfl, Nat.le_of_ble_eq_true rfl, rfl⟩ ?_
            refine wp.mono H ?_
            rintro v w1 ⟨v144, F145, rfl, rfl, H⟩
            show wp 10 185 (138, [some (vr 297), some (vi (F2 297 22)), some (vi v5), some (vi 0), some (vi (F129 297 24)), some (vi 0), none], [vi v144], (Wd S L F145 G h)) _
            refine pt185 (s' := (168, [some (vr 297), some (vi (F2 297 22)), some (vi v5), some (vi 0), some (vi (F129 297 24)), some (vi 0), some (vi ((-20) - (F2 297 22)))], [vi ((-20) - (F2 297 22))], (Wd S L (am_up F145 297 7 0) G h))) (by decide) [0, 0, 0, 0, 0, 0, 0, 0, 0, 0, 0, 0, 0, 0] rfl ⟨⟨⟨trivial, ⟨g6, c7⟩⟩, ⟨Nat.le_of_ble_eq_true rfl, rfl, fun h => by cases h⟩⟩, ⟨(by decide : R32 0), (by decide : (0 : Int) = (0 : Int))⟩⟩ ?_
            exact wp.fin (v := some (vi ((-20) - (F2 297 22)))) (by decide) am_m185 rfl ⟨_, rfl, Or.inl rfl, rfl⟩ H
        · rw [if_neg c131] at H
          refine pt185 (s' := (135, [some (vr 297), some (vi (F2 297 22)), some (vi v5), some (vi 0), some (vi (F129 297 24)), some (vi 0), none], [vr 297], (Wd S L F129 G h))) (by decide) [1, 0, 0, 0] rfl ⟨trivial, ⟨g130, c131⟩⟩ ?_
          refine wp.cl am_m185 rfl am_m172 7 [vr 297] [] rfl (Nat.le_of_ble_eq_true rfl) (Nat.le_of_ble_eq_true rfl) rfl (Nat.le_of_ble_eq_true rfl) rfl (Nat.le_of_ble_eq_true rfl) (Nat.le_of_ble_eq_true rfl) ⟨_, _, rfl, Nat.le_of_ble_eq_true rfl, rfl⟩ ?_
          refine wp.mono H ?_
          rintro v w1 ⟨v146, F147, rfl, rfl, H⟩
          show wp 10 185 (138, [some (vr 297), some (vi (F2 297 22)), some (vi v5), some (vi 0), some (vi (F129 297 24)), some (vi 0), none], [vi v146], (Wd S L F147 G h)) _
          refine pt185 (s' := (168, [some (vr 297), some (vi (F2 297 22)), some (vi v5), some (vi 0), some (vi (F129 297 24)), some (vi 0), some (vi ((-20) - (F2 297 22)))], [vi ((-20) - (F2 297 22))], (Wd S L (am_up F147 297 7 0) G h))) (by decide) [0, 0, 0, 0, 0, 0, 0, 0, 0, 0, 0, 0, 0, 0] rfl ⟨⟨⟨trivial, ⟨g6, c7⟩⟩, ⟨Nat.le_of_ble_eq_true rfl, rfl, fun h => by cases h⟩⟩, ⟨(by decide : R32 0), (by decide : (0 : Int) = (0 : Int))⟩⟩ ?_
          exact wp.fin (v := some (vi ((-20) - (F2 297 22)))) (by decide) am_m185 rfl ⟨_, rfl, Or.inl rfl, rfl⟩ H
      · rw [if_neg c128] at H
        refine pt185 (s' := (69, [some (vr 297), some (vi (F2 297 22)), some (vi v5), some (vi 0), none, none, none], [vi 2, vi v5], (Wd S L (am_up (am_up F4 297 23 1) 297 22 (F2 297 22)) G h))) (by decide) [1, 0, 0] rfl ⟨trivial, ⟨⟨g6, (by decide : R32 1)⟩, c128⟩⟩ ?_
        by_cases c148 : v5 = 2
        · rw [if_pos c148] at H
          refine pt185 (s' := (73, [some (vr 297), some (vi (F2 297 22)), some (vi v5), some (vi 0), none, none, none], [vr 297], (Wd S L (am_up (am_up F4 297 23 1) 297 22 (F2 297 22)) G h))) (by decide) [0, 0] rfl ⟨trivial, ⟨⟨g6, (by decide : R32 2)⟩, c148⟩⟩ ?_
          refine wp.cl am_m185 rfl am_m176 8 [vr 297] [] rfl (Nat.le_of_ble_eq_true rfl) (Nat.le_of_ble_eq_true rfl) rfl (Nat.le_of_ble_eq_true rfl) rfl (Nat.le_of_ble_eq_true rfl) (Nat.le_of_ble_eq_true rfl) ⟨_, _, rfl, Nat.le_of_ble_eq_true rfl, rfl⟩ ?_
          refine wp.mono H ?_
          rintro v w1 ⟨F149, rfl, rfl, H⟩
          show wp 10 185 (76, [some (vr 297), some (vi (F2 297 22)), some (vi v5), some (vi 0), none, none, none], [], (Wd S L F149 G h)) _
          refine pt185 (s' := (84, [some (vr 297), some (vi (F2 297 22)), some (vi v5), some (vi (F149 297 24)), none, none, none], [vi 47, vr 297], (Wd S L F149 G h))) (by decide) [0, 0, 0, 0, 0] rfl ⟨trivial, ⟨Nat.le_of_ble_eq_true rfl, rfl⟩⟩ ?_
          refine wp.cl am_m185 rfl am_m177 8 [vr 297, vi 47] [] rfl (Nat.le_of_ble_eq_true rfl) (Nat.le_of_ble_eq_true rfl) rfl (Nat.le_of_ble_eq_true rfl) rfl (Nat.le_of_ble_eq_true rfl) (Nat.le_of_ble_eq_true rfl) ⟨_, _, rfl, Nat.le_of_ble_eq_true rfl, rfl⟩ ?_
          refine wp.mono H ?_
          rintro v w1 ⟨F150, rfl, rfl, H⟩
          show wp 10 185 (87, [some (vr 297), some (vi (F2 297 22)), some (vi v5), some (vi (F149 297 24)), none, none, none], [], (Wd S L F150 G h)) _
          refine pt185 (s' := (90, [some (vr 297), some (vi (F2 297 22)), some (vi v5), some (vi (F149 297 24)), none, none, none], [vi 2, vi 1, vr 297], (Wd S L F150 G h))) (by decide) [0, 0, 0] rfl trivial ?_
          refine wp.cl am_m185 rfl am_m175 8 [vr 297, vi 1, vi 2] [] rfl (Nat.le_of_ble_eq_true rfl) (Nat.le_of_ble_eq_true rfl) rfl (Nat.le_of_ble_eq_true rfl) rfl (Nat.le_of_ble_eq_true rfl) (Nat.le_of_ble_eq_true rfl) ⟨_, _, rfl, Nat.le_of_ble_eq_true rfl, rfl⟩ ?_
          refine wp.mono H ?_
          rintro v w1 ⟨F151, rfl, rfl, H⟩
          show wp 10 185 (93, [some (vr 297), some (vi (F2 297 22)), some (vi v5), some (vi (F149 297 24)), none, none, none], [], (Wd S L F151 G h)) _
          obtain ⟨g152, H⟩ := H
          refine pt185 (s' := (117, [some (vr 297), some (vi (F2 297 22)), some (vi v5), some (vi (F149 297 24)), some (vi (F151 297 24)), none, none], [vi (F151 297 23)], (Wd S L F151 G h))) (by decide) [0, 0, 0, 0, 0, 0] rfl ⟨⟨trivial, ⟨Nat.le_of_ble_eq_true rfl, rfl⟩⟩, ⟨Nat.le_of_ble_eq_true rfl, rfl⟩⟩ ?_
          by_cases c153 : (F151 297 23) = 0
          · rw [if_pos c153] at H
            refine pt185 (s' := (121, [some (vr 297), some (vi (F2 297 22)), some (vi v5), some (vi (F149 297 24)), some (vi (F151 297 24)), none, none], [vr 297], (Wd S L F151 G h))) (by decide) [0, 0] rfl ⟨trivial, ⟨g152, c153⟩⟩ ?_
            refine wp.cl am_m185 rfl am_m172 7 [vr 297] [] rfl (Nat.le_of_ble_eq_true rfl) (Nat.le_of_ble_eq_true rfl) rfl (Nat.le_of_ble_eq_true rfl) rfl (Nat.le_of_ble_eq_true rfl) (Nat.le_of_ble_eq_true rfl) ⟨_, _, rfl, Nat.le_of_ble_eq_true rfl, rfl⟩ ?_
            refine wp.mono H ?_
            rintro v w1 ⟨v154, F155, rfl, rfl, H⟩
            show wp 10 185 (124, [some (vr 297), some (vi (F2 297 22)), some (vi v5), some (vi (F149 297 24)), some (vi (F151 297 24)), none, none], [vi v154], (Wd S L F155 G h)) _
            obtain ⟨g156, H⟩ := H
            by_cases c157 : v154 = 0
            · rw [if_pos c157] at H
              refine pt185 (s' := (135, [some (vr 297), some (vi (F2 297 22)), some (vi v5), some (vi (F149 297 24)), some (vi (F151 297 24)), some (vi 1), none], [vr 297], (Wd S L F155 G h))) (by decide) [0, 0, 0, 0, 0] rfl ⟨trivial, ⟨g156, c157⟩⟩ ?_
              refine wp.cl am_m185 rfl am_m172 7 [vr 297] [] rfl (Nat.le_of_ble_eq_true rfl) (Nat.le_of_ble_eq_true rfl) rfl (Nat.le_of_ble_eq_true rfl) rfl (Nat.le_of_ble_eq_true rfl) (Nat.le_of_ble_eq_true rfl) ⟨_, _, rfl, Nat.le_of_ble_eq_true rfl, rfl⟩ ?_
              refine wp.mono H ?_
              rintro v w1 ⟨v158, F159, rfl, rfl, H⟩
              show wp 10 185 (138, [some (vr 297), some (vi (F2 297 22)), some (vi v5), some (vi (F149 297 24)), some (vi (F151 297 24)), some (vi 1), none], [vi v158], (Wd S L F159 G h)) _
              refine pt185 (s' := (170, [some (vr 297), some (vi (F2 297 22)), some (vi v5), some (vi (F149 297 24)), some (vi (F151 297 24)), some (vi 1), some (vi ((-20) - (F2 297 22)))], [vr 297], (Wd S L (am_up F159 297 7 0) G h))) (by decide) [0, 0, 0, 0, 0, 0, 0, 0, 0, 0, 0, 0, 1, 0] rfl ⟨⟨⟨trivial, ⟨g6, c7⟩⟩, ⟨Nat.le_of_ble_eq_true rfl, rfl, fun h => by cases h⟩⟩, ⟨(by decide : R32 1), (by decide : ¬ (1 : Int) = (0 : Int))⟩⟩ ?_
              refine wp.cl am_m185 rfl am_m155 6 [vr 297] [] rfl (Nat.le_of_ble_eq_true rfl) (Nat.le_of_ble_eq_true rfl) rfl (Nat.le_of_ble_eq_true rfl) rfl (Nat.le_of_ble_eq_true rfl) (Nat.le_of_ble_eq_true rfl) ⟨_, _, rfl, Nat.le_of_ble_eq_true rfl, rfl⟩ ?_
              refine wp.mono H ?_
              rintro v w1 ⟨F160, rfl, rfl, H⟩
              show wp 10 185 (173, [some (vr 297), some (vi (F2 297 22)), some (vi v5), some (vi (F149 297 24)), some (vi (F151 297 24)), some (vi 1), some (vi ((-20) - (F2 297 22)))], [], (Wd S L F160 G h)) _
              refine pt185 (s' := (208, [some (vr 297), some (vi (F2 297 22)), some (vi v5), some (vi (F149 297 24)), some (vi (F151 297 24)), some (vi 1), some (vi ((-20) - (F2 297 22)))], [vi (F151 297 24), vi (F149 297 24), vr 297, vr 297], (Wd S L F160 G h))) (by decide) [0, 0, 1, 0, 0, 1, 0, 0, 0, 0, 0, 0] rfl ⟨⟨⟨trivial, ⟨g6, c108⟩⟩, ⟨⟨g6, (by decide : R32 1)⟩, c128⟩⟩, ⟨⟨g6, (by decide : R32 2)⟩, c148⟩⟩ ?_
              refine wp.cl am_m185 rfl am_m162 7 [vr 297, vi (F149 297 24), vi (F151 297 24)] [vr 297] rfl (Nat.le_of_ble_eq_true rfl) (Nat.le_of_ble_eq_true rfl) rfl (Nat.le_of_ble_eq_true rfl) rfl (Nat.le_of_ble_eq_true rfl) (Nat.le_of_ble_eq_true rfl) ⟨_, _, rfl, Nat.le_of_ble_eq_true rfl, rfl⟩ ?_
              refine wp.mono H ?_
              rintro v w1 ⟨v161, F162, rfl, rfl, H⟩
              show wp 10 185 (211, [some (vr 297), some (vi (F2 297 22)), some (vi v5), some (vi (F149 297 24)), some (vi (F151 297 24)), some (vi 1), some (vi ((-20) - (F2 297 22)))], [vi v161, vr 297], (Wd S L F162 G h)) _
              refine pt185 (s' := (220, [some (vr 297), some (vi (F2 297 22)), some (vi v5), some (vi (F149 297 24)), some (vi (F151 297 24)), some (vi 1), some (vi ((-20) - (F2 297 22)))], [vi v161, vr 297], (Wd S L F162 G h))) (by decide) [0] rfl trivial ?_
              refine wp.cl am_m185 rfl am_m157 7 [vr 297, vi v161] [] rfl (Nat.le_of_ble_eq_true rfl) (Nat.le_of_ble_eq_true rfl) rfl (Nat.le_of_ble_eq_true rfl) rfl (Nat.le_of_ble_eq_true rfl) (Nat.le_of_ble_eq_true rfl) ⟨_, _, rfl, Nat.le_of_ble_eq_true rfl, rfl⟩ ?_
              obtain ⟨g163, H⟩ := H
              refine pt157 (s' := (1, [some (vr 297), some (vi v161)], [vi v161], (Wd S L F162 G h))) (by decide) [0] rfl trivial ?_
              by_cases c164 : v161 < 0
              · rw [if_pos c164] at H
                refine pt157 (s' := (9, [some (vr 297), some (vi v161)], [vi v161], (Wd S L F162 G h))) (by decide) [1, 0] rfl ⟨trivial, ⟨g163, c164⟩⟩ ?_
                refine wp.fin (v := some (vi v161)) (by decide) am_m157 rfl ⟨_, rfl, Or.inl rfl, rfl⟩ ?_
                show wp 10 185 (223, [some (vr 297), some (vi (F2 297 22)), some (vi v5), some (vi (F149 297 24)), some (vi (F151 297 24)), some (vi 1), some (vi ((-20) - (F2 297 22)))], [vi v161], (Wd S L F162 G h)) _
                exact wp.fin (v := some (vi v161)) (by decide) am_m185 rfl ⟨_, rfl, Or.inl rfl, rfl⟩ H
              · rw [if_neg c164] at H
                refine pt157 (s' := (5, [some (vr 297), some (vi v161)], [vr 297], (Wd S L F162 G h))) (by decide) [0, 0] rfl ⟨trivial, ⟨g163, c164⟩⟩ ?_
                refine wp.cl am_m157 rfl am_m156 6 [vr 297] [] rfl (Nat.le_of_ble_eq_true rfl) (Nat.le_of_ble_eq_true rfl) rfl (Nat.le_of_ble_eq_true rfl) rfl (Nat.le_of_ble_eq_true rfl) (Nat.le_of_ble_eq_true rfl) ⟨_, _, rfl, Nat.le_of_ble_eq_true rfl, rfl⟩ ?_
                refine wp.mono H ?_
                rintro v w1 ⟨F165, rfl, rfl, H⟩
                show wp 7 157 (8, [some (vr 297), some (vi v161)], [], (Wd S L F165 G h)) _
                refine pt157 (s' := (9, [some (vr 297), some (vi v161)], [vi v161], (Wd S L F165 G h))) (by decide) [0] rfl trivial ?_
                refine wp.fin (v := some (vi v161)) (by decide) am_m157 rfl ⟨_, rfl, Or.inl rfl, rfl⟩ ?_
                show wp 10 185 (223, [some (vr 297), some (vi (F2 297 22)), some (vi v5), some (vi (F149 297 24)), some (vi (F151 297 24)), some (vi 1), some (vi ((-20) - (F2 297 22)))], [vi v161], (Wd S L F165 G h)) _
                exact wp.fin (v := some (vi v161)) (by decide) am_m185 rfl ⟨_, rfl, Or.inl rfl, rfl⟩ H
            · rw [if_neg c157] at H
              refine pt185 (s' := (135, [some (vr 297), some (vi (F2 297 22)), some (vi v5), some (vi (F149 297 24)), some (vi (F151 297 24)), some (vi 0), none], [vr 297], (Wd S L F155 G h))) (by decide) [1, 0, 0, 0] rfl ⟨trivial, ⟨g156, c157⟩⟩ ?_
              refine wp.cl am_m185 rfl am_m172 7 [vr 297] [] rfl (Nat.le_of_ble_eq_true rfl) (Nat.le_of_ble_eq_true rfl) rfl (Nat.le_of_ble_eq_true rfl) rfl (Nat.le_of_ble_eq_true rfl) (Nat.le_of_ble_eq_true rfl) ⟨_, _, rfl, Nat.le_of_ble_eq_true rfl, rfl⟩ ?_
              refine wp.mono H ?_
              rintro v w1 ⟨v166, F167, rfl, rfl, H⟩
              show wp 10 185 (138, [some (vr 297), some (vi (F2 297 22)), some (vi v5), some (vi (F149 297 24)), some (vi (F151 297 24)), some (vi 0), none], [vi v166], (Wd S L F167 G h)) _
              refine pt185 (s' := (168, [some (vr 297), some (vi (F2 297 22)), some (vi v5), some (vi (F149 297 24)), some (vi (F151 297 24)), some (vi 0), some (vi ((-20) - (F2 297 22)))], [vi ((-20) - (F2 297 22))], (Wd S L (am_up F167 297 7 0) G h))) (by decide) [0, 0, 0, 0, 0, 0, 0, 0, 0, 0, 0, 0, 0, 0] rfl ⟨⟨⟨trivial, ⟨g6, c7⟩⟩, ⟨Nat.le_of_ble_eq_true rfl, rfl, fun h => by cases h⟩⟩, ⟨(by decide : R32 0), (by decide : (0 : Int) = (0 : Int))⟩⟩ ?_
              exact wp.fin (v := some (vi ((-20) - (F2 297 22)))) (by decide) am_m185 rfl ⟨_, rfl, Or.inl rfl, rfl⟩ H
          · rw [if_neg c153] at H
            refine pt185 (s' := (135, [some (vr 297), some (vi (F2 297 22)), some (vi v5), some (vi (F149 297 24)), some (vi (F151 297 24)), some (vi 0), none], [vr 297], (Wd S L F151 G h))) (by decide) [1, 0, 0, 0] rfl ⟨trivial, ⟨g152, c153⟩⟩ ?_
            refine wp.cl am_m185 rfl am_m172 7 [vr 297] [] rfl (Nat.le_of_ble_eq_true rfl) (Nat.le_of_ble_eq_true rfl) rfl (Nat.le_of_ble_eq_true rfl) rfl (Nat.le_of_ble_eq_true rfl) (Nat.le_of_ble_eq_true rfl) ⟨_, _, rfl, Nat.le_of_ble_eq_true rfl, rfl⟩ ?_
            refine wp.mono H ?_
            rintro v w1 ⟨v168, F169, rfl, rfl, H⟩
            show wp 10 185 (138, [some (vr 297), some (vi (F2 297 22)), some (vi v5), some (vi (F149 297 24)), some (vi (F151 297 24)), some (vi 0), none], [vi v168], (Wd S L F169 G h)) _
            refine pt185 (s' := (168, [some (vr 297), some (vi (F2 297 22)), some (vi v5), some (vi (F149 297 24)), some (vi (F151 297 24)), some (vi 0), some (vi ((-20) - (F2 297 22)))], [vi ((-20) - (F2 297 22))], (Wd S L (am_up F169 297 7 0) G h))) (by decide) [0, 0, 0, 0, 0, 0, 0, 0, 0, 0, 0, 0, 0, 0] rfl ⟨⟨⟨trivial, ⟨g6, c7⟩⟩, ⟨Nat.le_of_ble_eq_true rfl, rfl, fun h => by cases h⟩⟩, ⟨(by decide : R32 0), (by decide : (0 : Int) = (0 : Int))⟩⟩ ?_
            exact wp.fin (v := some (vi ((-20) - (F2 297 22)))) (by decide) am_m185 rfl ⟨_, rfl, Or.inl rfl, rfl⟩ H
        · rw [if_neg c148] at H
          refine pt185 (s' := (98, [some (vr 297), some (vi (F2 297 22)), some (vi v5), some (vi 0), none, none, none], [vi 3, vi v5], (Wd S L (am_up (am_up F4 297 23 1) 297 22 (F2 297 22)) G h))) (by decide) [1, 0, 0] rfl ⟨trivial, ⟨⟨g6, (by decide : R32 2)⟩, c148⟩⟩ ?_
          by_cases c170 : v5 = 3
          · rw [if_pos c170] at H
            refine pt185 (s' := (104, [some (vr 297), some (vi (F2 297 22)), some (vi v5), some (vi 0), none, none, none], [vi 3, vi 0, vr 297], (Wd S L (am_up (am_up F4 297 23 1) 297 22 (F2 297 22)) G h))) (by decide) [0, 0, 0, 0] rfl ⟨trivial, ⟨⟨g6, (by decide : R32 3)⟩, c170⟩⟩ ?_
            refine wp.cl am_m185 rfl am_m175 8 [vr 297, vi 0, vi 3] [] rfl (Nat.le_of_ble_eq_true rfl) (Nat.le_of_ble_eq_true rfl) rfl (Nat.le_of_ble_eq_true rfl) rfl (Nat.le_of_ble_eq_true rfl) (Nat.le_of_ble_eq_true rfl) ⟨_, _, rfl, Nat.le_of_ble_eq_true rfl, rfl⟩ ?_
            refine wp.mono H ?_
            rintro v w1 ⟨F171, rfl, rfl, H⟩
            show wp 10 185 (107, [some (vr 297), some (vi (F2 297 22)), some (vi v5), some (vi 0), none, none, none], [], (Wd S L F171 G h)) _
            obtain ⟨g172, H⟩ := H
            refine pt185 (s' := (117, [some (vr 297), some (vi (F2 297 22)), some (vi v5), some (vi 0), some (vi (F171 297 24)), none, none], [vi (F171 297 23)], (Wd S L F171 G h))) (by decide) [0, 0, 0, 0, 0] rfl ⟨⟨trivial, ⟨Nat.le_of_ble_eq_true rfl, rfl⟩⟩, ⟨Nat.le_of_ble_eq_true rfl, rfl⟩⟩ ?_
            by_cases c173 : (F171 297 23) = 0
            · rw [if_pos c173] at H
              refine pt185 (s' := (121, [some (vr 297), some (vi (F2 297 22)), some (vi v5), some (vi 0), some (vi (F171 297 24)), none, none], [vr 297], (Wd S L F171 G h))) (by decide) [0, 0] rfl ⟨trivial, ⟨g172, c173⟩⟩ ?_
              refine wp.cl am_m185 rfl am_m172 7 [vr 297] [] rfl (Nat.le_of_ble_eq_true rfl) (Nat.le_of_ble_eq_true rfl) rfl (Nat.le_of_ble_eq_true rfl) rfl (Nat.le_of_ble_eq_true rfl) (Nat.le_of_ble_eq_true rfl) ⟨_, _, rfl, Nat.le_of_ble_eq_true rfl, rfl⟩ ?_
              refine wp.mono H ?_
              rintro v w1 ⟨v174, F175, rfl, rfl, H⟩
              show wp 10 185 (124, [some (vr 297), some (vi (F2 297 22)), some (vi v5), some (vi 0), some (vi (F171 297 24)), none, none], [vi v174], (Wd S L F175 G h)) _
              obtain ⟨g176, H⟩ := H
              by_cases c177 : v174 = 0
              · rw [if_pos c177] at H
                refine pt185 (s' := (135, [some (vr 297), some (vi (F2 297 22)), some (vi v5), some (vi 0), some (vi (F171 297 24)), some (vi 1), none], [vr 297], (Wd S L F175 G h))) (by decide) [0, 0, 0, 0, 0] rfl ⟨trivial, ⟨g176, c177⟩⟩ ?_
                refine wp.cl am_m185 rfl am_m172 7 [vr 297] [] rfl (Nat.le_of_ble_eq_true rfl) (Nat.le_of_ble_eq_true rfl) rfl (Nat.le_of_ble_eq_true rfl) rfl (Nat.le_of_ble_eq_true rfl) (Nat.le_of_ble_eq_true rfl) ⟨_, _, rfl, Nat.le_of_ble_eq_true rfl, rfl⟩ ?_
                refine wp.mono H ?_
                rintro v w1 ⟨v178, F179, rfl, rfl, H⟩
                show wp 10 185 (138, [some (vr 297), some (vi (F2 297 22)), some (vi v5), some (vi 0), some (vi (F171 297 24)), some (vi 1), none], [vi v178], (Wd S L F179 G h)) _
                refine pt185 (s' := (170, [some (vr 297), some (vi (F2 297 22)), some (vi v5), some (vi 0), some (vi (F171 297 24)), some (vi 1), some (vi ((-20) - (F2 297 22)))], [vr 297], (Wd S L (am_up F179 297 7 0) G h))) (by decide) [0, 0, 0, 0, 0, 0, 0, 0, 0, 0, 0, 0, 1, 0] rfl ⟨⟨⟨trivial, ⟨g6, c7⟩⟩, ⟨Nat.le_of_ble_eq_true rfl, rfl, fun h => by cases h⟩⟩, ⟨(by decide : R32 1), (by decide : ¬ (1 : Int) = (0 : Int))⟩⟩ ?_
                refine wp.cl am_m185 rfl am_m155 6 [vr 297] [] rfl (Nat.le_of_ble_eq_true rfl) (Nat.le_of_ble_eq_true rfl) rfl (Nat.le_of_ble_eq_true rfl) rfl (Nat.le_of_ble_eq_true rfl) (Nat.le_of_ble_eq_true rfl) ⟨_, _, rfl, Nat.le_of_ble_eq_true rfl, rfl⟩ ?_
                refine wp.mono H ?_
                rintro v w1 ⟨F180, rfl, rfl, H⟩
                show wp 10 185 (173, [some (vr 297), some (vi (F2 297 22)), some (vi v5), some (vi 0), some (vi (F171 297 24)), some (vi 1), some (vi ((-20) - (F2 297 22)))], [], (Wd S L F180 G h)) _
                refine pt185 (s' := (217, [some (vr 297), some (vi (F2 297 22)), some (vi v5), some (vi 0), some (vi (F171 297 24)), some (vi 1), some (vi ((-20) - (F2 297 22)))], [vi (F171 297 24), vr 297, vr 297], (Wd S L F180 G h))) (by decide) [0, 0, 1, 0, 0, 1, 0, 0, 1, 0, 0] rfl ⟨⟨⟨trivial, ⟨g6, c108⟩⟩, ⟨⟨g6, (by decide : R32 1)⟩, c128⟩⟩, ⟨⟨g6, (by decide : R32 2)⟩, c148⟩⟩ ?_
                refine wp.cl am_m185 rfl am_m163 7 [vr 297, vi (F171 297 24)] [vr 297] rfl (Nat.le_of_ble_eq_true rfl) (Nat.le_of_ble_eq_true rfl) rfl (Nat.le_of_ble_eq_true rfl) rfl (Nat.le_of_ble_eq_true rfl) (Nat.le_of_ble_eq_true rfl) ⟨_, _, rfl, Nat.le_of_ble_eq_true rfl, rfl⟩ ?_
                refine wp.mono H ?_
                rintro v w1 ⟨v181, F182, rfl, rfl, H⟩
                show wp 10 185 (220, [some (vr 297), some (vi (F2 297 22)), some (vi v5), some (vi 0), some (vi (F171 297 24)), some (vi 1), some (vi ((-20) - (F2 297 22)))], [vi v181, vr 297], (Wd S L F182 G h)) _
                refine wp.cl am_m185 rfl am_m157 7 [vr 297, vi v181] [] rfl (Nat.le_of_ble_eq_true rfl) (Nat.le_of_ble_eq_true rfl) rfl (Nat.le_of_ble_eq_true rfl) rfl (Nat.le_of_ble_eq_true rfl) (Nat.le_of_ble_eq_true rfl) ⟨_, _, rfl, Nat.le_of_ble_eq_true rfl, rfl⟩ ?_
                obtain ⟨g183, H⟩ := H
                refine pt157 (s' := (1, [some (vr 297), some (vi v181)], [vi v181], (Wd S L F182 G h))) (by decide) [0] rfl trivial ?_
                by_cases c184 : v181 < 0
                · rw [if_pos c184] at H
                  refine pt157 (s' := (9, [some (vr 297), some (vi v181)], [vi v181], (Wd S L F182 G h))) (by decide) [1, 0] rfl ⟨trivial, ⟨g183, c184⟩⟩ ?_
                  refine wp.fin (v := some (vi v181)) (by decide) am_m157 rfl ⟨_, rfl, Or.inl rfl, rfl⟩ ?_
                  show wp 10 185 (223, [some (vr 297), some (vi (F2 297 22)), some (vi v5), some (vi 0), some (vi (F171 297 24)), some (vi 1), some (vi ((-20) - (F2 297 22)))], [vi v181], (Wd S L F182 G h)) _
                  exact wp.fin (v := some (vi v181)) (by decide) am_m185 rfl ⟨_, rfl, Or.inl rfl, rfl⟩ H
                · rw [if_neg c184] at H
                  refine pt157 (s' := (5, [some (vr 297), some (vi v181)], [vr 297], (Wd S L F182 G h))) (by decide) [0, 0] rfl ⟨trivial, ⟨g183, c184⟩⟩ ?_
                  refine wp.cl am_m157 rfl am_m156 6 [vr 297] [] rfl (Nat.le_of_ble_eq_true rfl) (Nat.le_of_ble_eq_true rfl) rfl (Nat.le_of_ble_eq_true rfl) rfl (Nat.le_of_ble_eq_true rfl) (Nat.le_of_ble_eq_true rfl) ⟨_, _, rfl, Nat.le_of_ble_eq_true rfl, rfl⟩ ?_
                  refine wp.mono H ?_
                  rintro v w1 ⟨F185, rfl, rfl, H⟩
                  show wp 7 157 (8, [some (vr 297), some (vi v181)], [], (Wd S L F185 G h)) _
                  refine pt157 (s' := (9, [some (vr 297), some (vi v181)], [vi v181], (Wd S L F185 G h))) (by decide) [0] rfl trivial ?_
                  refine wp.fin (v := some (vi v181)) (by decide) am_m157 rfl ⟨_, rfl, Or.inl rfl, rfl⟩ ?_
                  show wp 10 185 (223, [some (vr 297), some (vi (F2 297 22)), some (vi v5), some (vi 0), some (vi (F171 297 24)), some (vi 1), some (vi ((-20) - (F2 297 22)))], [vi v181], (Wd S L F185 G h)) _
                  exact wp.fin (v := some (vi v181)) (by decide) am_m185 rfl ⟨_, rfl, Or.inl rfl, rfl⟩ H
              · rw [if_neg c177] at H
                refine pt185 (s' := (135, [some (vr 297), some (vi (F2 297 22)), some (vi v5), some (vi 0), some (vi (F171 297 24)), some (vi 0), none], [vr 297], (Wd S L F175 G h))) (by decide) [1, 0, 0, 0] rfl ⟨trivial, ⟨g176, c177⟩⟩ ?_
                refine wp.cl am_m185 rfl am_m172 7 [vr 297] [] rfl (Nat.le_of_ble_eq_true rfl) (Nat.le_of_ble_eq_true rfl) rfl (Nat.le_of_ble_eq_true rfl) rfl (Nat.le_of_ble_eq_true rfl) (Nat.le_of_ble_eq_true rfl) ⟨_, _, rfl, Nat.le_of_ble_eq_true rfl, rfl⟩ ?_
                refine wp.mono H ?_
                rintro v w1 ⟨v186, F187, rfl, rfl, H⟩
                show wp 10 185 (138, [some (vr 297), some (vi (F2 297 22)), some (vi v5), some (vi 0), some (vi (F171 297 24)), some (vi 0), none], [vi v186], (Wd S L F187 G h)) _
                refine pt185 (s' := (168, [some (vr 297), some (vi (F2 297 22)), some (vi v5), some (vi 0), some (vi (F171 297 24)), some (vi 0), some (vi ((-20) - (F2 297 22)))], [vi ((-20) - (F2 297 22))], (Wd S L (am_up F187 297 7 0) G h))) (by decide) [0, 0, 0, 0, 0, 0, 0, 0, 0, 0, 0, 0, 0, 0] rfl ⟨⟨⟨trivial, ⟨g6, c7⟩⟩, ⟨Nat.le_of_ble_eq_true rfl, rfl, fun h => by cases h⟩⟩, ⟨(by decide : R32 0), (by decide : (0 : Int) = (0 : Int))⟩⟩ ?_
                exact wp.fin (v := some (vi ((-20) - (F2 297 22)))) (by decide) am_m185 rfl ⟨_, rfl, Or.inl rfl, rfl⟩ H
            · rw [if_neg c173] at H
              refine pt185 (s' := (135, [some (vr 297), some (vi (F2 297 22)), some (vi v5), some (vi 0), some (vi (F171 297 24)), some (vi 0), none], [vr 297], (Wd S L F171 G h))) (by decide) [1, 0, 0, 0] rfl ⟨trivial, ⟨g172, c173⟩⟩ ?_
              refine wp.cl am_m185 rfl am_m172 7 [vr 297] [] rfl (Nat.le_of_ble_eq_true rfl) (Nat.le_of_ble_eq_true rfl) rfl (Nat.le_of_ble_eq_true rfl) rfl (Nat.le_of_ble_eq_true rfl) (Nat.le_of_ble_eq_true rfl) ⟨_, _, rfl, Nat.le_of_ble_eq_true rfl, rfl⟩ ?_
              refine wp.mono H ?_
              rintro v w1 ⟨v188, F189, rfl, rfl, H⟩
              show wp 10 185 (138, [some (vr 297), some (vi (F2 297 22)), some (vi v5), some (vi 0), some (vi (F171 297 24)), some (vi 0), none], [vi v188], (Wd S L F189 G h)) _
              refine pt185 (s' := (168, [some (vr 297), some (vi (F2 297 22)), some (vi v5), some (vi 0), some (vi (F171 297 24)), some (vi 0), some (vi ((-20) - (F2 297 22)))], [vi ((-20) - (F2 297 22))], (Wd S L (am_up F189 297 7 0) G h))) (by decide) [0, 0, 0, 0, 0, 0, 0, 0, 0, 0, 0, 0, 0, 0] rfl ⟨⟨⟨trivial, ⟨g6, c7⟩⟩, ⟨Nat.le_of_ble_eq_true rfl, rfl, fun h => by cases h⟩⟩, ⟨(by decide : R32 0), (by decide : (0 : Int) = (0 : Int))⟩⟩ ?_
              exact wp.fin (v := some (vi ((-20) - (F2 297 22)))) (by decide) am_m185 rfl ⟨_, rfl, Or.inl rfl, rfl⟩ H
          · rw [if_neg c170] at H
            refine pt185 (s' := (135, [some (vr 297), some (vi (F2 297 22)), some (vi v5), some (vi 0), some (vi (F4 297 24)), some (vi 0), none], [vr 297], (Wd S L (am_up (am_up F4 297 23 1) 297 22 (F2 297 22)) G h))) (by decide) [1, 0, 0, 0, 0, 0, 1, 0, 0, 0] rfl ⟨⟨⟨⟨trivial, ⟨⟨g6, (by decide : R32 3)⟩, c170⟩⟩, ⟨Nat.le_of_ble_eq_true rfl, rfl⟩⟩, ⟨Nat.le_of_ble_eq_true rfl, rfl⟩⟩, ⟨(by decide : R32 1), (by decide : ¬ (1 : Int) = (0 : Int))⟩⟩ ?_
            refine wp.cl am_m185 rfl am_m172 7 [vr 297] [] rfl (Nat.le_of_ble_eq_true rfl) (Nat.le_of_ble_eq_true rfl) rfl (Nat.le_of_ble_eq_true rfl) rfl (Nat.le_of_ble_eq_true rfl) (Nat.le_of_ble_eq_true rfl) ⟨_, _, rfl, Nat.le_of_ble_eq_true rfl, rfl⟩ ?_
            refine wp.mono H ?_
            rintro v w1 ⟨v190, F191, rfl, rfl, H⟩
            show wp 10 185 (138, [some (vr 297), some (vi (F2 297 22)), some (vi v5), some (vi 0), some (vi (F4 297 24)), some (vi 0), none], [vi v190], (Wd S L F191 G h)) _
            refine pt185 (s' := (168, [some (vr 297), some (vi (F2 297 22)), some (vi v5), some (vi 0), some (vi (F4 297 24)), some (vi 0), some (vi ((-20) - (F2 297 22)))], [vi ((-20) - (F2 297 22))], (Wd S L (am_up F191 297 7 0) G h))) (by decide) [0, 0, 0, 0, 0, 0, 0, 0, 0, 0, 0, 0, 0, 0] rfl ⟨⟨⟨trivial, ⟨g6, c7⟩⟩, ⟨Nat.le_of_ble_eq_true rfl, rfl, fun h => by cases h⟩⟩, ⟨(by decide : R32 0), (by decide : (0 : Int) = (0 : Int))⟩⟩ ?_
            exact wp.fin (v := some (vi ((-20) - (F2 297 22)))) (by decide) am_m185 rfl ⟨_, rfl, Or.inl rfl, rfl⟩ H
set_option maxRecDepth 100000 in
set_option maxHeartbeats 4000000 in
theorem T186_0 {S L : Nat} {F G : Nat → Nat → Int} {h : Nat → Nat → Option Nat} (hh : RfH h) {a1 : Int}  {Q : Option V2 → W2 → Prop}
    (H : (R32 a1 ∧
 (if a1 < 1 then
  Q (some (vi (-1))) (Wd S L F G h)
 else
  (if 40 < a1 then
   Q (some (vi (-1))) (Wd S L F G h)
  else
   C186_16 a1 0 (Wd S L F G h) Q)))) : C186_0 a1 (Wd S L F G h) Q := by
  obtain ⟨g1, H⟩ := H
  refine pt186 (s' := (6, [some (vr 297), some (vi a1), none, none, none, none], [vj 40, vj 1, vj a1], (Wd S L F G h))) (by decide) [0, 0, 0, 0] rfl ⟨trivial, g1⟩ ?_
  refine wp.cl am_m186 rfl am_m112 6 [vj a1, vj 1, vj 40] [] rfl (Nat.le_of_ble_eq_true rfl) (Nat.le_of_ble_eq_true rfl) rfl (Nat.le_of_ble_eq_true rfl) rfl (Nat.le_of_ble_eq_true rfl) (Nat.le_of_ble_eq_true rfl) trivial ?_
  refine pt112 (s' := (3, [some (vj a1), none, some (vj 1), none, some (vj 40), none], [vi (y_cmp a1 1)], (Wd S L F G h))) (by decide) [0, 0, 0] rfl ⟨trivial, ⟨(r64 g1), (by decide : R64 1)⟩⟩ ?_
  by_cases c2 : a1 < 1
  · rw [if_pos c2] at H
    refine pt112 (s' := (18, [some (vj a1), none, some (vj 1), none, some (vj 40), none], [vi 0], (Wd S L F G h))) (by decide) [1, 0] rfl ⟨trivial, ⟨y_cmp_r32, (y_cmp_lt.mpr c2)⟩⟩ ?_
    refine wp.fin (v := some (vi 0)) (by decide) am_m112 rfl ⟨_, rfl, Or.inr ⟨rfl, Or.inl rfl⟩, rfl⟩ ?_
    show wp 9 186 (9, [some (vr 297), some (vi a1), none, none, none, none], [vi 0], (Wd S L F G h)) _
    refine pt186 (s' := (13, [some (vr 297), some (vi a1), none, none, none, none], [vi (-1)], (Wd S L F G h))) (by decide) [0, 0] rfl ⟨trivial, ⟨(by decide : R32 0), (by decide : (0 : Int) = (0 : Int))⟩⟩ ?_
    exact wp.fin (v := some (vi (-1))) (by decide) am_m186 rfl ⟨_, rfl, Or.inl rfl, rfl⟩ H
  · rw [if_neg c2] at H
    refine pt112 (s' := (10, [some (vj a1), none, some (vj 1), none, some (vj 40), none], [vi (y_cmp a1 40)], (Wd S L F G h))) (by decide) [0, 0, 0, 0] rfl ⟨⟨trivial, ⟨y_cmp_r32, (fun e => c2 (y_cmp_lt.mp e))⟩⟩, ⟨(r64 g1), (by decide : R64 40)⟩⟩ ?_
    by_cases c3 : 40 < a1
    · rw [if_pos c3] at H
      refine pt112 (s' := (18, [some (vj a1), none, some (vj 1), none, some (vj 40), none], [vi 0], (Wd S L F G h))) (by decide) [1, 0] rfl ⟨trivial, ⟨y_cmp_r32, (y_cmp_gt.mpr c3)⟩⟩ ?_
      refine wp.fin (v := some (vi 0)) (by decide) am_m112 rfl ⟨_, rfl, Or.inr ⟨rfl, Or.inl rfl⟩, rfl⟩ ?_
      show wp 9 186 (9, [some (vr 297), some (vi a1), none, none, none, none], [vi 0], (Wd S L F G h)) _
      refine pt186 (s' := (13, [some (vr 297), some (vi a1), none, none, none, none], [vi (-1)], (Wd S L F G h))) (by decide) [0, 0] rfl ⟨trivial, ⟨(by decide : R32 0), (by decide : (0 : Int) = (0 : Int))⟩⟩ ?_
      exact wp.fin (v := some (vi (-1))) (by decide) am_m186 rfl ⟨_, rfl, Or.inl rfl, rfl⟩ H
    · rw [if_neg c3] at H
      refine pt112 (s' := (18, [some (vj a1), none, some (vj 1), none, some (vj 40), none], [vi 1], (Wd S L F G h))) (by decide) [0, 0, 0] rfl ⟨trivial, ⟨y_cmp_r32, (fun e => c3 (y_cmp_gt.mp e))⟩⟩ ?_
      refine wp.fin (v := some (vi 1)) (by decide) am_m112 rfl ⟨_, rfl, Or.inr ⟨rfl, Or.inr rfl⟩, rfl⟩ ?_
      show wp 9 186 (9, [some (vr 297), some (vi a1), none, none, none, none], [vi 1], (Wd S L F G h)) _
      refine pt186 (s' := (16, [some (vr 297), some (vi a1), some (vi 0), none, none, none], [], (Wd S L F G h))) (by decide) [1, 0, 0] rfl ⟨trivial, ⟨(by decide : R32 1), (by decide : ¬ (1 : Int) = (0 : Int))⟩⟩ ?_
      exact wp.weak (a := [some (vr 297), some (vi a1), some (vi 0), none, none, none]) ⟨rfl, rfl, rfl, trivial⟩ H
set_option maxRecDepth 100000 in
set_option maxHeartbeats 4000000 in
theorem T186_16 {S L : Nat} {F G : Nat → Nat → Int} {h : Nat → Nat → Option Nat} (hh : RfH h) {x1 : Int} {x2 : Int}  {Q : Option V2 → W2 → Prop}
    (H : (R32 x2 ∧
 R32 x1 ∧
 (if x1 ≤ x2 then
  Q (some (vi (F 298 0))) (Wd S L F G h)
 else
  C155_0  (Wd S L F G h) (fun v w1 => ∃ (F4 : Nat → Nat → Int), v = none ∧ w1 = (Wd S L F4 G h) ∧
   C156_0  (Wd S L F4 G h) (fun v w1 => ∃ (F5 : Nat → Nat → Int), v = none ∧ w1 = (Wd S L F5 G h) ∧
    (R32 (F5 298 5) ∧
    ((0 : Int) ≤ ((Int64.ofInt (((F5 298 5) * 1103515245) + 12345) &&& Int64.ofInt 2147483647).toInt) ∧ ((Int64.ofInt (((F5 298 5) * 1103515245) + 12345) &&& Int64.ofInt 2147483647).toInt) ≤ 2147483647) ∧
    ((0 : Int) ≤ (((Int64.ofInt (((F5 298 5) * 1103515245) + 12345) &&& Int64.ofInt 2147483647).toInt) / 65536) ∧ (((Int64.ofInt (((F5 298 5) * 1103515245) + 12345) &&& Int64.ofInt 2147483647).toInt) / 65536) ≤ 2147483647) ∧
    ((0 : Int) ≤ ((((Int64.ofInt (((F5 298 5) * 1103515245) + 12345) &&& Int64.ofInt 2147483647).toInt) / 65536) / 8) ∧ ((((Int64.ofInt (((F5 298 5) * 1103515245) + 12345) &&& Int64.ofInt 2147483647).toInt) / 65536) / 8) ≤ 2147483647) ∧
    ((0 : Int) ≤ ((((Int64.ofInt (((F5 298 5) * 1103515245) + 12345) &&& Int64.ofInt 2147483647).toInt) / 65536) / 128) ∧ ((((Int64.ofInt (((F5 298 5) * 1103515245) + 12345) &&& Int64.ofInt 2147483647).toInt) / 65536) / 128) ≤ 2147483647) ∧
    R32 ((((Int64.ofInt (((F5 298 5) * 1103515245) + 12345) &&& Int64.ofInt 2147483647).toInt) / 65536) % 8) ∧
    (if ((((Int64.ofInt (((F5 298 5) * 1103515245) + 12345) &&& Int64.ofInt 2147483647).toInt) / 65536) % 8) = 3 then
     (((0 : Int) ≤ (((((Int64.ofInt (((F5 298 5) * 1103515245) + 12345) &&& Int64.ofInt 2147483647).toInt) / 65536) / 128) % 12) ∧ (((((Int64.ofInt (((F5 298 5) * 1103515245) + 12345) &&& Int64.ofInt 2147483647).toInt) / 65536) / 128) % 12) ≤ 2147483647) ∧
     ((0 : Int) ≤ ((((Int64.ofInt (((F5 298 5) * 1103515245) + 12345) &&& Int64.ofInt 2147483647).toInt) / 65536) / 2048) ∧ ((((Int64.ofInt (((F5 298 5) * 1103515245) + 12345) &&& Int64.ofInt 2147483647).toInt) / 65536) / 2048) ≤ 2147483647) ∧
     C159_0 (((((Int64.ofInt (((F5 298 5) * 1103515245) + 12345) &&& Int64.ofInt 2147483647).toInt) / 65536) / 8) % 12) ((((((Int64.ofInt (((F5 298 5) * 1103515245) + 12345) &&& Int64.ofInt 2147483647).toInt) / 65536) / 128) % 12) % 8) (((((Int64.ofInt (((F5 298 5) * 1103515245) + 12345) &&& Int64.ofInt 2147483647).toInt) / 65536) / 2048) % 6) (Wd S L (am_up F5 298 5 ((Int64.ofInt (((F5 298 5) * 1103515245) + 12345) &&& Int64.ofInt 2147483647).toInt)) G h) (fun v w1 => ∃ (v15 : Int) (F16 : Nat → Nat → Int), v = some (vi v15) ∧ w1 = (Wd S L F16 G h) ∧
      C186_16 x1 (x2 + 1) (Wd S L (am_up F16 297 27 v15) G h) Q))
    else
    (if ((((Int64.ofInt (((F5 298 5) * 1103515245) + 12345) &&& Int64.ofInt 2147483647).toInt) / 65536) % 8) = 4 then
     (((0 : Int) ≤ (((((Int64.ofInt (((F5 298 5) * 1103515245) + 12345) &&& Int64.ofInt 2147483647).toInt) / 65536) / 8) % 12) ∧ (((((Int64.ofInt (((F5 298 5) * 1103515245) + 12345) &&& Int64.ofInt 2147483647).toInt) / 65536) / 8) % 12) ≤ 2147483647) ∧
     ((0 : Int) ≤ ((((Int64.ofInt (((F5 298 5) * 1103515245) + 12345) &&& Int64.ofInt 2147483647).toInt) / 65536) / 2048) ∧ ((((Int64.ofInt (((F5 298 5) * 1103515245) + 12345) &&& Int64.ofInt 2147483647).toInt) / 65536) / 2048) ≤ 2147483647) ∧
     C158_0 ((((((Int64.ofInt (((F5 298 5) * 1103515245) + 12345) &&& Int64.ofInt 2147483647).toInt) / 65536) / 8) % 12) % 8) (((((Int64.ofInt (((F5 298 5) * 1103515245) + 12345) &&& Int64.ofInt 2147483647).toInt) / 65536) / 128) % 12) (((((Int64.ofInt (((F5 298 5) * 1103515245) + 12345) &&& Int64.ofInt 2147483647).toInt) / 65536) / 2048) % 13) (Wd S L (am_up F5 298 5 ((Int64.ofInt (((F5 298 5) * 1103515245) + 12345) &&& Int64.ofInt 2147483647).toInt)) G h) (fun v w1 => ∃ (v20 : Int) (F21 : Nat → Nat → Int), v = some (vi v20) ∧ w1 = (Wd S L F21 G h) ∧
      C186_16 x1 (x2 + 1) (Wd S L (am_up F21 297 27 v20) G h) Q))
    else
    (if ((((Int64.ofInt (((F5 298 5) * 1103515245) + 12345) &&& Int64.ofInt 2147483647).toInt) / 65536) % 8) = 5 then
     C161_0 (((((Int64.ofInt (((F5 298 5) * 1103515245) + 12345) &&& Int64.ofInt 2147483647).toInt) / 65536) / 8) % 12) (Wd S L (am_up F5 298 5 ((Int64.ofInt (((F5 298 5) * 1103515245) + 12345) &&& Int64.ofInt 2147483647).toInt)) G h) (fun v w1 => ∃ (v23 : Int) (F24 : Nat → Nat → Int), v = some (vi v23) ∧ w1 = (Wd S L F24 G h) ∧
      C186_16 x1 (x2 + 1) (Wd S L (am_up F24 297 27 v23) G h) Q)
    else
    (if ((((Int64.ofInt (((F5 298 5) * 1103515245) + 12345) &&& Int64.ofInt 2147483647).toInt) / 65536) % 8) = 6 then
     (((0 : Int) ≤ (((((Int64.ofInt (((F5 298 5) * 1103515245) + 12345) &&& Int64.ofInt 2147483647).toInt) / 65536) / 128) % 12) ∧ (((((Int64.ofInt (((F5 298 5) * 1103515245) + 12345) &&& Int64.ofInt 2147483647).toInt) / 65536) / 128) % 12) ≤ 2147483647) ∧
     C162_0 ((((((Int64.ofInt (((F5 298 5) * 1103515245) + 12345) &&& Int64.ofInt 2147483647).toInt) / 65536) / 8) % 12) + 1) (((((((Int64.ofInt (((F5 298 5) * 1103515245) + 12345) &&& Int64.ofInt 2147483647).toInt) / 65536) / 128) % 12) % 2) + 1) (Wd S L (am_up F5 298 5 ((Int64.ofInt (((F5 298 5) * 1103515245) + 12345) &&& Int64.ofInt 2147483647).toInt)) G h) (fun v w1 => ∃ (v27 : Int) (F28 : Nat → Nat → Int), v = some (vi v27) ∧ w1 = (Wd S L F28 G h) ∧
      C186_16 x1 (x2 + 1) (Wd S L (am_up F28 297 27 v27) G h) Q))
    else
    (if ((((Int64.ofInt (((F5 298 5) * 1103515245) + 12345) &&& Int64.ofInt 2147483647).toInt) / 65536) % 8) = 7 then
     (((0 : Int) ≤ (((((Int64.ofInt (((F5 298 5) * 1103515245) + 12345) &&& Int64.ofInt 2147483647).toInt) / 65536) / 8) % 12) ∧ (((((Int64.ofInt (((F5 298 5) * 1103515245) + 12345) &&& Int64.ofInt 2147483647).toInt) / 65536) / 8) % 12) ≤ 2147483647) ∧
     C163_0 ((((((Int64.ofInt (((F5 298 5) * 1103515245) + 12345) &&& Int64.ofInt 2147483647).toInt) / 65536) / 8) % 12) % 4) (Wd S L (am_up F5 298 5 ((Int64.ofInt (((F5 298 5) * 1103515245) + 12345) &&& Int64.ofInt 2147483647).toInt)) G h) (fun v w1 => ∃ (v31 : Int) (F32 : Nat → Nat → Int), v = some (vi v31) ∧ w1 = (Wd S L F32 G h) ∧
      C186_16 x1 (x2 + 1) (Wd S L (am_up F32 297 27 v31) G h) Q))
    else
    C160_0 (((((Int64.ofInt (((F5 298 5) * 1103515245) + 12345) &&& Int64.ofInt 2147483647).toInt) / 65536) / 8) % 12) ((((((Int64.ofInt (((F5 298 5) * 1103515245) + 12345) &&& Int64.ofInt 2147483647).toInt) / 65536) / 128) % 12) + 1) (Wd S L (am_up F5 298 5 ((Int64.ofInt (((F5 298 5) * 1103515245) + 12345) &&& Int64.ofInt 2147483647).toInt)) G h) (fun v w1 => ∃ (v33 : Int) (F34 : Nat → Nat → Int), v = some (vi v33) ∧ w1 = (Wd S L F34 G h) ∧
     C186_16 x1 (x2 + 1) (Wd S L (am_up F34 297 27 v33) G h) Q)))))))))))) : C186_16 x1 x2 (Wd S L F G h) Q := by
  obtain ⟨g1, H⟩ := H
  obtain ⟨g2, H⟩ := H
  refine pt186 (s' := (18, [some (vr 297), some (vi x1), some (vi x2), none, none, none], [vi x1, vi x2], (Wd S L F G h))) (by decide) [0, 0] rfl trivial ?_
  by_cases c3 : x1 ≤ x2
  · rw [if_pos c3] at H
    refine pt186 (s' := (251, [some (vr 297), some (vi x1), some (vi x2), none, none, none], [vi (F 298 0)], (Wd S L F G h))) (by decide) [1, 0, 298, 0, 0] rfl ⟨⟨⟨trivial, ⟨⟨g1, g2⟩, c3⟩⟩, ⟨Nat.le_of_ble_eq_true rfl, rfl, hh _ _ _ rfl⟩⟩, (ix ⟨Nat.le_of_ble_eq_true rfl, rfl⟩ (by decide : (0 : Int) ≤ 0 ∧ (0 : Int) < 134))⟩ ?_
    exact wp.fin (v := some (vi (F 298 0))) (by decide) am_m186 rfl ⟨_, rfl, Or.inl rfl, rfl⟩ H
  · rw [if_neg c3] at H
    refine pt186 (s' := (22, [some (vr 297), some (vi x1), some (vi x2), none, none, none], [vr 297], (Wd S L F G h))) (by decide) [0, 0] rfl ⟨trivial, ⟨⟨g1, g2⟩, c3⟩⟩ ?_
    refine wp.cl am_m186 rfl am_m155 6 [vr 297] [] rfl (Nat.le_of_ble_eq_true rfl) (Nat.le_of_ble_eq_true rfl) rfl (Nat.le_of_ble_eq_true rfl) rfl (Nat.le_of_ble_eq_true rfl) (Nat.le_of_ble_eq_true rfl) ⟨_, _, rfl, Nat.le_of_ble_eq_true rfl, rfl⟩ ?_
    refine wp.mono H ?_
    rintro v w1 ⟨F4, rfl, rfl, H⟩
    show wp 9 186 (25, [some (vr 297), some (vi x1), some (vi x2), none, none, none], [], (Wd S L F4 G h)) _
    refine pt186 (s' := (26, [some (vr 297), some (vi x1), some (vi x2), none, none, none], [vr 297], (Wd S L F4 G h))) (by decide) [0] rfl trivial ?_
    refine wp.cl am_m186 rfl am_m156 6 [vr 297] [] rfl (Nat.le_of_ble_eq_true rfl) (Nat.le_of_ble_eq_true rfl) rfl (Nat.le_of_ble_eq_true rfl) rfl (Nat.le_of_ble_eq_true rfl) (Nat.le_of_ble_eq_true rfl) ⟨_, _, rfl, Nat.le_of_ble_eq_true rfl, rfl⟩ ?_
    refine wp.mono H ?_
    rintro v w1 ⟨F5, rfl, rfl, H⟩
    show wp 9 186 (29, [some (vr 297), some (vi x1), some (vi x2), none, none, none], [], (Wd S L F5 G h)) _
    obtain ⟨g6, H⟩ := H
    obtain ⟨g7, H⟩ := H
    obtain ⟨g8, H⟩ := H
    obtain ⟨g9, H⟩ := H
    obtain ⟨g10, H⟩ := H
    obtain ⟨g11, H⟩ := H
    refine pt186 (s' := (89, [some (vr 297), some (vi x1), some (vi x2), some (vi (((Int64.ofInt (((F5 298 5) * 1103515245) + 12345) &&& Int64.ofInt 2147483647).toInt) / 65536)), some (vi (((((Int64.ofInt (((F5 298 5) * 1103515245) + 12345) &&& Int64.ofInt 2147483647).toInt) / 65536) / 8) % 12)), some (vi (((((Int64.ofInt (((F5 298 5) * 1103515245) + 12345) &&& Int64.ofInt 2147483647).toInt) / 65536) / 128) % 12))], [vi ((((Int64.ofInt (((F5 298 5) * 1103515245) + 12345) &&& Int64.ofInt 2147483647).toInt) / 65536) % 8)], (Wd S L (am_up F5 298 5 ((Int64.ofInt (((F5 298 5) * 1103515245) + 12345) &&& Int64.ofInt 2147483647).toInt)) G h))) (by decide) [0, 298, 0, 0, 298, 0, 0, 0, 0, 0, 0, 0, 0, 0, 0, 0, 0, 298, 0, 0, 0, 0, 0, 0, 0, 0, 0, 0, 0, 0, 0, 0, 0, 0, 0, 0, 0, 0] rfl ⟨⟨⟨⟨⟨⟨⟨⟨⟨⟨⟨⟨⟨trivial, ⟨Nat.le_of_ble_eq_true rfl, rfl, hh _ _ _ rfl⟩⟩, ⟨Nat.le_of_ble_eq_true rfl, rfl, hh _ _ _ rfl⟩⟩, (ix ⟨Nat.le_of_ble_eq_true rfl, rfl⟩ (by decide : (0 : Int) ≤ 5 ∧ (5 : Int) < 134))⟩, g6⟩, (ix ⟨Nat.le_of_ble_eq_true rfl, rfl⟩ (by decide : (0 : Int) ≤ 5 ∧ (5 : Int) < 134))⟩, ⟨Nat.le_of_ble_eq_true rfl, rfl, hh _ _ _ rfl⟩⟩, (ix ⟨Nat.le_of_ble_eq_true rfl, rfl⟩ (by decide : (0 : Int) ≤ 5 ∧ (5 : Int) < 134))⟩, ⟨g7.1, g7.2, (by decide : (0 : Int) < 65536), (by decide : (65536 : Int) ≤ 2147483647)⟩⟩, ⟨g8.1, g8.2, (by decide : (0 : Int) < 8), (by decide : (8 : Int) ≤ 2147483647)⟩⟩, ⟨g9.1, g9.2, (by decide : (0 : Int) < 12), (by decide : (12 : Int) ≤ 2147483647)⟩⟩, ⟨g8.1, g8.2, (by decide : (0 : Int) < 128), (by decide : (128 : Int) ≤ 2147483647)⟩⟩, ⟨g10.1, g10.2, (by decide : (0 : Int) < 12), (by decide : (12 : Int) ≤ 2147483647)⟩⟩, ⟨g8.1, g8.2, (by decide : (0 : Int) < 8), (by decide : (8 : Int) ≤ 2147483647)⟩⟩ ?_
    by_cases c12 : ((((Int64.ofInt (((F5 298 5) * 1103515245) + 12345) &&& Int64.ofInt 2147483647).toInt) / 65536) % 8) = 3
    · rw [if_pos c12] at H
      obtain ⟨g13, H⟩ := H
      obtain ⟨g14, H⟩ := H
      refine pt186 (s' := (141, [some (vr 297), some (vi x1), some (vi x2), some (vi (((Int64.ofInt (((F5 298 5) * 1103515245) + 12345) &&& Int64.ofInt 2147483647).toInt) / 65536)), some (vi (((((Int64.ofInt (((F5 298 5) * 1103515245) + 12345) &&& Int64.ofInt 2147483647).toInt) / 65536) / 8) % 12)), some (vi (((((Int64.ofInt (((F5 298 5) * 1103515245) + 12345) &&& Int64.ofInt 2147483647).toInt) / 65536) / 128) % 12))], [vi (((((Int64.ofInt (((F5 298 5) * 1103515245) + 12345) &&& Int64.ofInt 2147483647).toInt) / 65536) / 2048) % 6), vi ((((((Int64.ofInt (((F5 298 5) * 1103515245) + 12345) &&& Int64.ofInt 2147483647).toInt) / 65536) / 128) % 12) % 8), vi (((((Int64.ofInt (((F5 298 5) * 1103515245) + 12345) &&& Int64.ofInt 2147483647).toInt) / 65536) / 8) % 12), vr 297, vr 297], (Wd S L (am_up F5 298 5 ((Int64.ofInt (((F5 298 5) * 1103515245) + 12345) &&& Int64.ofInt 2147483647).toInt)) G h))) (by decide) [1, 0, 0, 0, 0, 0, 0, 0, 0, 0, 0, 0] rfl ⟨⟨⟨⟨trivial, ⟨g11, (by omega : ¬ ((((Int64.ofInt (((F5 298 5) * 1103515245) + 12345) &&& Int64.ofInt 2147483647).toInt) / 65536) % 8) < 3), (by omega : ¬ 7 < ((((Int64.ofInt (((F5 298 5) * 1103515245) + 12345) &&& Int64.ofInt 2147483647).toInt) / 65536) % 8)), c12⟩⟩, ⟨g13.1, g13.2, (by decide : (0 : Int) < 8), (by decide : (8 : Int) ≤ 2147483647)⟩⟩, ⟨g8.1, g8.2, (by decide : (0 : Int) < 2048), (by decide : (2048 : Int) ≤ 2147483647)⟩⟩, ⟨g14.1, g14.2, (by decide : (0 : Int) < 6), (by decide : (6 : Int) ≤ 2147483647)⟩⟩ ?_
      refine wp.cl am_m186 rfl am_m159 7 [vr 297, vi (((((Int64.ofInt (((F5 298 5) * 1103515245) + 12345) &&& Int64.ofInt 2147483647).toInt) / 65536) / 8) % 12), vi ((((((Int64.ofInt (((F5 298 5) * 1103515245) + 12345) &&& Int64.ofInt 2147483647).toInt) / 65536) / 128) % 12) % 8), vi (((((Int64.ofInt (((F5 298 5) * 1103515245) + 12345) &&& Int64.ofInt 2147483647).toInt) / 65536) / 2048) % 6)] [vr 297] rfl (Nat.le_of_ble_eq_true rfl) (Nat.le_of_ble_eq_true rfl) rfl (Nat.le_of_ble_eq_true rfl) rfl (Nat.le_of_ble_eq_true rfl) (Nat.le_of_ble_eq_true rfl) ⟨_, _, rfl, Nat.le_of_ble_eq_true rfl, rfl⟩ ?_
      refine wp.mono H ?_
      rintro v w1 ⟨v15, F16, rfl, rfl, H⟩
      show wp 9 186 (144, [some (vr 297), some (vi x1), some (vi x2), some (vi (((Int64.ofInt (((F5 298 5) * 1103515245) + 12345) &&& Int64.ofInt 2147483647).toInt) / 65536)), some (vi (((((Int64.ofInt (((F5 298 5) * 1103515245) + 12345) &&& Int64.ofInt 2147483647).toInt) / 65536) / 8) % 12)), some (vi (((((Int64.ofInt (((F5 298 5) * 1103515245) + 12345) &&& Int64.ofInt 2147483647).toInt) / 65536) / 128) % 12))], [vi v15, vr 297], (Wd S L F16 G h)) _
      refine pt186 (s' := (16, [some (vr 297), some (vi x1), some (vi (x2 + 1)), some (vi (((Int64.ofInt (((F5 298 5) * 1103515245) + 12345) &&& Int64.ofInt 2147483647).toInt) / 65536)), some (vi (((((Int64.ofInt (((F5 298 5) * 1103515245) + 12345) &&& Int64.ofInt 2147483647).toInt) / 65536) / 8) % 12)), some (vi (((((Int64.ofInt (((F5 298 5) * 1103515245) + 12345) &&& Int64.ofInt 2147483647).toInt) / 65536) / 128) % 12))], [], (Wd S L (am_up F16 297 27 v15) G h))) (by decide) [0, 0, 0, 0] rfl ⟨trivial, ⟨Nat.le_of_ble_eq_true rfl, rfl, fun h => by cases h⟩⟩ ?_
      exact wp.weak (a := [some (vr 297), some (vi x1), some (vi (x2 + 1)), none, none, none]) ⟨rfl, rfl, rfl, trivial⟩ H
    · rw [if_neg c12] at H
      by_cases c17 : ((((Int64.ofInt (((F5 298 5) * 1103515245) + 12345) &&& Int64.ofInt 2147483647).toInt) / 65536) % 8) = 4
      · rw [if_pos c17] at H
        obtain ⟨g18, H⟩ := H
        obtain ⟨g19, H⟩ := H
        refine pt186 (s' := (167, [some (vr 297), some (vi x1), some (vi x2), some (vi (((Int64.ofInt (((F5 298 5) * 1103515245) + 12345) &&& Int64.ofInt 2147483647).toInt) / 65536)), some (vi (((((Int64.ofInt (((F5 298 5) * 1103515245) + 12345) &&& Int64.ofInt 2147483647).toInt) / 65536) / 8) % 12)), some (vi (((((Int64.ofInt (((F5 298 5) * 1103515245) + 12345) &&& Int64.ofInt 2147483647).toInt) / 65536) / 128) % 12))], [vi (((((Int64.ofInt (((F5 298 5) * 1103515245) + 12345) &&& Int64.ofInt 2147483647).toInt) / 65536) / 2048) % 13), vi (((((Int64.ofInt (((F5 298 5) * 1103515245) + 12345) &&& Int64.ofInt 2147483647).toInt) / 65536) / 128) % 12), vi ((((((Int64.ofInt (((F5 298 5) * 1103515245) + 12345) &&& Int64.ofInt 2147483647).toInt) / 65536) / 8) % 12) % 8), vr 297, vr 297], (Wd S L (am_up F5 298 5 ((Int64.ofInt (((F5 298 5) * 1103515245) + 12345) &&& Int64.ofInt 2147483647).toInt)) G h))) (by decide) [2, 0, 0, 0, 0, 0, 0, 0, 0, 0, 0, 0] rfl ⟨⟨⟨⟨trivial, ⟨g11, (by omega : ¬ ((((Int64.ofInt (((F5 298 5) * 1103515245) + 12345) &&& Int64.ofInt 2147483647).toInt) / 65536) % 8) < 3), (by omega : ¬ 7 < ((((Int64.ofInt (((F5 298 5) * 1103515245) + 12345) &&& Int64.ofInt 2147483647).toInt) / 65536) % 8)), c17⟩⟩, ⟨g18.1, g18.2, (by decide : (0 : Int) < 8), (by decide : (8 : Int) ≤ 2147483647)⟩⟩, ⟨g8.1, g8.2, (by decide : (0 : Int) < 2048), (by decide : (2048 : Int) ≤ 2147483647)⟩⟩, ⟨g19.1, g19.2, (by decide : (0 : Int) < 13), (by decide : (13 : Int) ≤ 2147483647)⟩⟩ ?_
        refine wp.cl am_m186 rfl am_m158 7 [vr 297, vi ((((((Int64.ofInt (((F5 298 5) * 1103515245) + 12345) &&& Int64.ofInt 2147483647).toInt) / 65536) / 8) % 12) % 8), vi (((((Int64.ofInt (((F5 298 5) * 1103515245) + 12345) &&& Int64.ofInt 2147483647).toInt) / 65536) / 128) % 12), vi (((((Int64.ofInt (((F5 298 5) * 1103515245) + 12345) &&& Int64.ofInt 2147483647).toInt) / 65536) / 2048) % 13)] [vr 297] rfl (Nat.le_of_ble_eq_true rfl) (Nat.le_of_ble_eq_true rfl) rfl (Nat.le_of_ble_eq_true rfl) rfl (Nat.le_of_ble_eq_true rfl) (Nat.le_of_ble_eq_true rfl) ⟨_, _, rfl, Nat.le_of_ble_eq_true rfl, rfl⟩ ?_
        refine wp.mono H ?_
        rintro v w1 ⟨v20, F21, rfl, rfl, H⟩
        show wp 9 186 (170, [some (vr 297), some (vi x1), some (vi x2), some (vi (((Int64.ofInt (((F5 298 5) * 1103515245) + 12345) &&& Int64.ofInt 2147483647).toInt) / 65536)), some (vi (((((Int64.ofInt (((F5 298 5) * 1103515245) + 12345) &&& Int64.ofInt 2147483647).toInt) / 65536) / 8) % 12)), some (vi (((((Int64.ofInt (((F5 298 5) * 1103515245) + 12345) &&& Int64.ofInt 2147483647).toInt) / 65536) / 128) % 12))], [vi v20, vr 297], (Wd S L F21 G h)) _
        refine pt186 (s' := (16, [some (vr 297), some (vi x1), some (vi (x2 + 1)), some (vi (((Int64.ofInt (((F5 298 5) * 1103515245) + 12345) &&& Int64.ofInt 2147483647).toInt) / 65536)), some (vi (((((Int64.ofInt (((F5 298 5) * 1103515245) + 12345) &&& Int64.ofInt 2147483647).toInt) / 65536) / 8) % 12)), some (vi (((((Int64.ofInt (((F5 298 5) * 1103515245) + 12345) &&& Int64.ofInt 2147483647).toInt) / 65536) / 128) % 12))], [], (Wd S L (am_up F21 297 27 v20) G h))) (by decide) [0, 0, 0, 0] rfl ⟨trivial, ⟨Nat.le_of_ble_eq_true rfl, rfl, fun h => by cases h⟩⟩ ?_
        exact wp.weak (a := [some (vr 297), some (vi x1), some (vi (x2 + 1)), none, none, none]) ⟨rfl, rfl, rfl, trivial⟩ H
      · rw [if_neg c17] at H
        by_cases c22 : ((((Int64.ofInt (((F5 298 5) * 1103515245) + 12345) &&& Int64.ofInt 2147483647).toInt) / 65536) % 8) = 5
        · rw [if_pos c22] at H
          refine pt186 (s' := (180, [some (vr 297), some (vi x1), some (vi x2), some (vi (((Int64.ofInt (((F5 298 5) * 1103515245) + 12345) &&& Int64.ofInt 2147483647).toInt) / 65536)), some (vi (((((Int64.ofInt (((F5 298 5) * 1103515245) + 12345) &&& Int64.ofInt 2147483647).toInt) / 65536) / 8) % 12)), some (vi (((((Int64.ofInt (((F5 298 5) * 1103515245) + 12345) &&& Int64.ofInt 2147483647).toInt) / 65536) / 128) % 12))], [vi (((((Int64.ofInt (((F5 298 5) * 1103515245) + 12345) &&& Int64.ofInt 2147483647).toInt) / 65536) / 8) % 12), vr 297, vr 297], (Wd S L (am_up F5 298 5 ((Int64.ofInt (((F5 298 5) * 1103515245) + 12345) &&& Int64.ofInt 2147483647).toInt)) G h))) (by decide) [3, 0, 0, 0] rfl ⟨trivial, ⟨g11, (by omega : ¬ ((((Int64.ofInt (((F5 298 5) * 1103515245) + 12345) &&& Int64.ofInt 2147483647).toInt) / 65536) % 8) < 3), (by omega : ¬ 7 < ((((Int64.ofInt (((F5 298 5) * 1103515245) + 12345) &&& Int64.ofInt 2147483647).toInt) / 65536) % 8)), c22⟩⟩ ?_
          refine wp.cl am_m186 rfl am_m161 8 [vr 297, vi (((((Int64.ofInt (((F5 298 5) * 1103515245) + 12345) &&& Int64.ofInt 2147483647).toInt) / 65536) / 8) % 12)] [vr 297] rfl (Nat.le_of_ble_eq_true rfl) (Nat.le_of_ble_eq_true rfl) rfl (Nat.le_of_ble_eq_true rfl) rfl (Nat.le_of_ble_eq_true rfl) (Nat.le_of_ble_eq_true rfl) ⟨_, _, rfl, Nat.le_of_ble_eq_true rfl, rfl⟩ ?_
          refine wp.mono H ?_
          rintro v w1 ⟨v23, F24, rfl, rfl, H⟩
          show wp 9 186 (183, [some (vr 297), some (vi x1), some (vi x2), some (vi (((Int64.ofInt (((F5 298 5) * 1103515245) + 12345) &&& Int64.ofInt 2147483647).toInt) / 65536)), some (vi (((((Int64.ofInt (((F5 298 5) * 1103515245) + 12345) &&& Int64.ofInt 2147483647).toInt) / 65536) / 8) % 12)), some (vi (((((Int64.ofInt (((F5 298 5) * 1103515245) + 12345) &&& Int64.ofInt 2147483647).toInt) / 65536) / 128) % 12))], [vi v23, vr 297], (Wd S L F24 G h)) _
          refine pt186 (s' := (16, [some (vr 297), some (vi x1), some (vi (x2 + 1)), some (vi (((Int64.ofInt (((F5 298 5) * 1103515245) + 12345) &&& Int64.ofInt 2147483647).toInt) / 65536)), some (vi (((((Int64.ofInt (((F5 298 5) * 1103515245) + 12345) &&& Int64.ofInt 2147483647).toInt) / 65536) / 8) % 12)), some (vi (((((Int64.ofInt (((F5 298 5) * 1103515245) + 12345) &&& Int64.ofInt 2147483647).toInt) / 65536) / 128) % 12))], [], (Wd S L (am_up F24 297 27 v23) G h))) (by decide) [0, 0, 0, 0] rfl ⟨trivial, ⟨Nat.le_of_ble_eq_true rfl, rfl, fun h => by cases h⟩⟩ ?_
          exact wp.weak (a := [some (vr 297), some (vi x1), some (vi (x2 + 1)), none, none, none]) ⟨rfl, rfl, rfl, trivial⟩ H
        · rw [if_neg c22] at H
          by_cases c25 : ((((Int64.ofInt (((F5 298 5) * 1103515245) + 12345) &&& Int64.ofInt 2147483647).toInt) / 65536) % 8) = 6
          · rw [if_pos c25] at H
            obtain ⟨g26, H⟩ := H
            refine pt186 (s' := (201, [some (vr 297), some (vi x1), some (vi x2), some (vi (((Int64.ofInt (((F5 298 5) * 1103515245) + 12345) &&& Int64.ofInt 2147483647).toInt) / 65536)), some (vi (((((Int64.ofInt (((F5 298 5) * 1103515245) + 12345) &&& Int64.ofInt 2147483647).toInt) / 65536) / 8) % 12)), some (vi (((((Int64.ofInt (((F5 298 5) * 1103515245) + 12345) &&& Int64.ofInt 2147483647).toInt) / 65536) / 128) % 12))], [vi (((((((Int64.ofInt (((F5 298 5) * 1103515245) + 12345) &&& Int64.ofInt 2147483647).toInt) / 65536) / 128) % 12) % 2) + 1), vi ((((((Int64.ofInt (((F5 298 5) * 1103515245) + 12345) &&& Int64.ofInt 2147483647).toInt) / 65536) / 8) % 12) + 1), vr 297, vr 297], (Wd S L (am_up F5 298 5 ((Int64.ofInt (((F5 298 5) * 1103515245) + 12345) &&& Int64.ofInt 2147483647).toInt)) G h))) (by decide) [4, 0, 0, 0, 0, 0, 0, 0, 0, 0, 0] rfl ⟨⟨trivial, ⟨g11, (by omega : ¬ ((((Int64.ofInt (((F5 298 5) * 1103515245) + 12345) &&& Int64.ofInt 2147483647).toInt) / 65536) % 8) < 3), (by omega : ¬ 7 < ((((Int64.ofInt (((F5 298 5) * 1103515245) + 12345) &&& Int64.ofInt 2147483647).toInt) / 65536) % 8)), c25⟩⟩, ⟨g26.1, g26.2, (by decide : (0 : Int) < 2), (by decide : (2 : Int) ≤ 2147483647)⟩⟩ ?_
            refine wp.cl am_m186 rfl am_m162 7 [vr 297, vi ((((((Int64.ofInt (((F5 298 5) * 1103515245) + 12345) &&& Int64.ofInt 2147483647).toInt) / 65536) / 8) % 12) + 1), vi (((((((Int64.ofInt (((F5 298 5) * 1103515245) + 12345) &&& Int64.ofInt 2147483647).toInt) / 65536) / 128) % 12) % 2) + 1)] [vr 297] rfl (Nat.le_of_ble_eq_true rfl) (Nat.le_of_ble_eq_true rfl) rfl (Nat.le_of_ble_eq_true rfl) rfl (Nat.le_of_ble_eq_true rfl) (Nat.le_of_ble_eq_true rfl) ⟨_, _, rfl, Nat.le_of_ble_eq_true rfl, rfl⟩ ?_
            refine wp.mono H ?_
            rintro v w1 ⟨v27, F28, rfl, rfl, H⟩
            show wp 9 186 (204, [some (vr 297), some (vi x1), some (vi x2), some (vi (((Int64.ofInt (((F5 298 5) * 1103515245) + 12345) &&& Int64.ofInt 2147483647).toInt) / 65536)), some (vi (((((Int64.ofInt (((F5 298 5) * 1103515245) + 12345) &&& Int64.ofInt 2147483647).toInt) / 65536) / 8) % 12)), some (vi (((((Int64.ofInt (((F5 298 5) * 1103515245) + 12345) &&& Int64.ofInt 2147483647).toInt) / 65536) / 128) % 12))], [vi v27, vr 297], (Wd S L F28 G h)) _
            refine pt186 (s' := (16, [some (vr 297), some (vi x1), some (vi (x2 + 1)), some (vi (((Int64.ofInt (((F5 298 5) * 1103515245) + 12345) &&& Int64.ofInt 2147483647).toInt) / 65536)), some (vi (((((Int64.ofInt (((F5 298 5) * 1103515245) + 12345) &&& Int64.ofInt 2147483647).toInt) / 65536) / 8) % 12)), some (vi (((((Int64.ofInt (((F5 298 5) * 1103515245) + 12345) &&& Int64.ofInt 2147483647).toInt) / 65536) / 128) % 12))], [], (Wd S L (am_up F28 297 27 v27) G h))) (by decide) [0, 0, 0, 0] rfl ⟨trivial, ⟨Nat.le_of_ble_eq_true rfl, rfl, fun h => by cases h⟩⟩ ?_
            exact wp.weak (a := [some (vr 297), some (vi x1), some (vi (x2 + 1)), none, none, none]) ⟨rfl, rfl, rfl, trivial⟩ H
          · rw [if_neg c25] at H
            by_cases c29 : ((((Int64.ofInt (((F5 298 5) * 1103515245) + 12345) &&& Int64.ofInt 2147483647).toInt) / 65536) % 8) = 7
            · rw [if_pos c29] at H
              obtain ⟨g30, H⟩ := H
              refine pt186 (s' := (216, [some (vr 297), some (vi x1), some (vi x2), some (vi (((Int64.ofInt (((F5 298 5) * 1103515245) + 12345) &&& Int64.ofInt 2147483647).toInt) / 65536)), some (vi (((((Int64.ofInt (((F5 298 5) * 1103515245) + 12345) &&& Int64.ofInt 2147483647).toInt) / 65536) / 8) % 12)), some (vi (((((Int64.ofInt (((F5 298 5) * 1103515245) + 12345) &&& Int64.ofInt 2147483647).toInt) / 65536) / 128) % 12))], [vi ((((((Int64.ofInt (((F5 298 5) * 1103515245) + 12345) &&& Int64.ofInt 2147483647).toInt) / 65536) / 8) % 12) % 4), vr 297, vr 297], (Wd S L (am_up F5 298 5 ((Int64.ofInt (((F5 298 5) * 1103515245) + 12345) &&& Int64.ofInt 2147483647).toInt)) G h))) (by decide) [5, 0, 0, 0, 0, 0] rfl ⟨⟨trivial, ⟨g11, (by omega : ¬ ((((Int64.ofInt (((F5 298 5) * 1103515245) + 12345) &&& Int64.ofInt 2147483647).toInt) / 65536) % 8) < 3), (by omega : ¬ 7 < ((((Int64.ofInt (((F5 298 5) * 1103515245) + 12345) &&& Int64.ofInt 2147483647).toInt) / 65536) % 8)), c29⟩⟩, ⟨g30.1, g30.2, (by decide : (0 : Int) < 4), (by decide : (4 : Int) ≤ 2147483647)⟩⟩ ?_
              refine wp.cl am_m186 rfl am_m163 7 [vr 297, vi ((((((Int64.ofInt (((F5 298 5) * 1103515245) + 12345) &&& Int64.ofInt 2147483647).toInt) / 65536) / 8) % 12) % 4)] [vr 297] rfl (Nat.le_of_ble_eq_true rfl) (Nat.le_of_ble_eq_true rfl) rfl (Nat.le_of_ble_eq_true rfl) rfl (Nat.le_of_ble_eq_true rfl) (Nat.le_of_ble_eq_true rfl) ⟨_, _, rfl, Nat.le_of_ble_eq_true rfl, rfl⟩ ?_
              refine wp.mono H ?_
              rintro v w1 ⟨v31, F32, rfl, rfl, H⟩
              show wp 9 186 (219, [some (vr 297), some (vi x1), some (vi x2), some (vi (((Int64.ofInt (((F5 298 5) * 1103515245) + 12345) &&& Int64.ofInt 2147483647).toInt) / 65536)), some (vi (((((Int64.ofInt (((F5 298 5) * 1103515245) + 12345) &&& Int64.ofInt 2147483647).toInt) / 65536) / 8) % 12)), some (vi (((((Int64.ofInt (((F5 298 5) * 1103515245) + 12345) &&& Int64.ofInt 2147483647).toInt) / 65536) / 128) % 12))], [vi v31, vr 297], (Wd S L F32 G h)) _
              refine pt186 (s' := (16, [some (vr 297), some (vi x1), some (vi (x2 + 1)), some (vi (((Int64.ofInt (((F5 298 5) * 1103515245) + 12345) &&& Int64.ofInt 2147483647).toInt) / 65536)), some (vi (((((Int64.ofInt (((F5 298 5) * 1103515245) + 12345) &&& Int64.ofInt 2147483647).toInt) / 65536) / 8) % 12)), some (vi (((((Int64.ofInt (((F5 298 5) * 1103515245) + 12345) &&& Int64.ofInt 2147483647).toInt) / 65536) / 128) % 12))], [], (Wd S L (am_up F32 297 27 v31) G h))) (by decide) [0, 0, 0, 0] rfl ⟨trivial, ⟨Nat.le_of_ble_eq_true rfl, rfl, fun h => by cases h⟩⟩ ?_
              exact wp.weak (a := [some (vr 297), some (vi x1), some (vi (x2 + 1)), none, none, none]) ⟨rfl, rfl, rfl, trivial⟩ H
            · rw [if_neg c29] at H
              refine pt186 (s' := (233, [some (vr 297), some (vi x1), some (vi x2), some (vi (((Int64.ofInt (((F5 298 5) * 1103515245) + 12345) &&& Int64.ofInt 2147483647).toInt) / 65536)), some (vi (((((Int64.ofInt (((F5 298 5) * 1103515245) + 12345) &&& Int64.ofInt 2147483647).toInt) / 65536) / 8) % 12)), some (vi (((((Int64.ofInt (((F5 298 5) * 1103515245) + 12345) &&& Int64.ofInt 2147483647).toInt) / 65536) / 128) % 12))], [vi ((((((Int64.ofInt (((F5 298 5) * 1103515245) + 12345) &&& Int64.ofInt 2147483647).toInt) / 65536) / 128) % 12) + 1), vi (((((Int64.ofInt (((F5 298 5) * 1103515245) + 12345) &&& Int64.ofInt 2147483647).toInt) / 65536) / 8) % 12), vr 297, vr 297], (Wd S L (am_up F5 298 5 ((Int64.ofInt (((F5 298 5) * 1103515245) + 12345) &&& Int64.ofInt 2147483647).toInt)) G h))) (by decide) [0, 0, 0, 0, 0, 0, 0] rfl ⟨trivial, ⟨g11, (by omega : ((((Int64.ofInt (((F5 298 5) * 1103515245) + 12345) &&& Int64.ofInt 2147483647).toInt) / 65536) % 8) < 3 ∨ 7 < ((((Int64.ofInt (((F5 298 5) * 1103515245) + 12345) &&& Int64.ofInt 2147483647).toInt) / 65536) % 8))⟩⟩ ?_
              refine wp.cl am_m186 rfl am_m160 7 [vr 297, vi (((((Int64.ofInt (((F5 298 5) * 1103515245) + 12345) &&& Int64.ofInt 2147483647).toInt) / 65536) / 8) % 12), vi ((((((Int64.ofInt (((F5 298 5) * 1103515245) + 12345) &&& Int64.ofInt 2147483647).toInt) / 65536) / 128) % 12) + 1)] [vr 297] rfl (Nat.le_of_ble_eq_true rfl) (Nat.le_of_ble_eq_true rfl) rfl (Nat.le_of_ble_eq_true rfl) rfl (Nat.le_of_ble_eq_true rfl) (Nat.le_of_ble_eq_true rfl) ⟨_, _, rfl, Nat.le_of_ble_eq_true rfl, rfl⟩ ?_
              refine wp.mono H ?_
              rintro v w1 ⟨v33, F34, rfl, rfl, H⟩
              show wp 9 186 (236, [some (vr 297), some (vi x1), some (vi x2), some (vi (((Int64.ofInt (((F5 298 5) * 1103515245) + 12345) &&& Int64.ofInt 2147483647).toInt) / 65536)), some (vi (((((Int64.ofInt (((F5 298 5) * 1103515245) + 12345) &&& Int64.ofInt 2147483647).toInt) / 65536) / 8) % 12)), some (vi (((((Int64.ofInt (((F5 298 5) * 1103515245) + 12345) &&& Int64.ofInt 2147483647).toInt) / 65536) / 128) % 12))], [vi v33, vr 297], (Wd S L F34 G h)) _
              refine pt186 (s' := (16, [some (vr 297), some (vi x1), some (vi (x2 + 1)), some (vi (((Int64.ofInt (((F5 298 5) * 1103515245) + 12345) &&& Int64.ofInt 2147483647).toInt) / 65536)), some (vi (((((Int64.ofInt (((F5 298 5) * 1103515245) + 12345) &&& Int64.ofInt 2147483647).toInt) / 65536) / 8) % 12)), some (vi (((((Int64.ofInt (((F5 298 5) * 1103515245) + 12345) &&& Int64.ofInt 2147483647).toInt) / 65536) / 128) % 12))], [], (Wd S L (am_up F34 297 27 v33) G h))) (by decide) [0, 0, 0] rfl ⟨trivial, ⟨Nat.le_of_ble_eq_true rfl, rfl, fun h => by cases h⟩⟩ ?_
              exact wp.weak (a := [some (vr 297), some (vi x1), some (vi (x2 + 1)), none, none, none]) ⟨rfl, rfl, rfl, trivial⟩ H
set_option maxRecDepth 100000 in
set_option maxHeartbeats 4000000 in
theorem T187_0 {S L : Nat} {F G : Nat → Nat → Int} {h : Nat → Nat → Option Nat} (hh : RfH h)   {Q : Option V2 → W2 → Prop}
    (H : (R32 (F 297 2) ∧
 (if (F 297 2) = 0 then
  Q (some (vi (-4))) (Wd S L F G h)
 else
  C187_22 0 (Wd S L (am_up F 297 2 ((F 297 2) - 1)) G h) Q))) : C187_0  (Wd S L F G h) Q := by
  obtain ⟨g1, H⟩ := H
  refine pt187 (s' := (4, [some (vr 297), none], [vi (F 297 2)], (Wd S L F G h))) (by decide) [0, 0] rfl ⟨trivial, ⟨Nat.le_of_ble_eq_true rfl, rfl⟩⟩ ?_
  by_cases c2 : (F 297 2) = 0
  · rw [if_pos c2] at H
    refine pt187 (s' := (9, [some (vr 297), none], [vi (-4)], (Wd S L F G h))) (by decide) [0, 0] rfl ⟨trivial, ⟨g1, c2⟩⟩ ?_
    exact wp.fin (v := some (vi (-4))) (by decide) am_m187 rfl ⟨_, rfl, Or.inl rfl, rfl⟩ H
  · rw [if_neg c2] at H
    refine pt187 (s' := (22, [some (vr 297), some (vi 0)], [], (Wd S L (am_up F 297 2 ((F 297 2) - 1)) G h))) (by decide) [1, 0, 0, 0, 0, 0, 0, 0, 0] rfl ⟨⟨⟨trivial, ⟨g1, c2⟩⟩, ⟨Nat.le_of_ble_eq_true rfl, rfl⟩⟩, ⟨Nat.le_of_ble_eq_true rfl, rfl, fun h => by cases h⟩⟩ ?_
    exact wp.weak (a := [some (vr 297), some (vi 0)]) ⟨rfl, rfl, trivial⟩ H
set_option maxRecDepth 100000 in
set_option maxHeartbeats 4000000 in
theorem T187_22 {S L : Nat} {F G : Nat → Nat → Int} {h : Nat → Nat → Option Nat} (hh : RfH h) {x1 : Int}  {Q : Option V2 → W2 → Prop}
    (H : (R32 x1 ∧
 (if 134 ≤ x1 then
  Q (some (vi (F 297 2))) (Wd S L F G h)
 else
  ((0 ≤ ((134 * (F 297 2)) + x1) ∧ ((134 * (F 297 2)) + x1) < 804) ∧
  (0 ≤ x1 ∧ x1 < 134) ∧
  C187_22 (x1 + 1) (Wd S L (am_up F 298 x1.toNat (F 299 ((134 * (F 297 2)) + x1).toNat)) G h) Q)))) : C187_22 x1 (Wd S L F G h) Q := by
  obtain ⟨g1, H⟩ := H
  refine pt187 (s' := (26, [some (vr 297), some (vi x1)], [vi 134, vi x1], (Wd S L F G h))) (by decide) [0, 0] rfl trivial ?_
  by_cases c2 : 134 ≤ x1
  · rw [if_pos c2] at H
    refine pt187 (s' := (60, [some (vr 297), some (vi x1)], [vi (F 297 2)], (Wd S L F G h))) (by decide) [1, 0, 0] rfl ⟨⟨trivial, ⟨⟨g1, (by decide : R32 134)⟩, c2⟩⟩, ⟨Nat.le_of_ble_eq_true rfl, rfl⟩⟩ ?_
    exact wp.fin (v := some (vi (F 297 2))) (by decide) am_m187 rfl ⟨_, rfl, Or.inl rfl, rfl⟩ H
  · rw [if_neg c2] at H
    obtain ⟨g3, H⟩ := H
    obtain ⟨g4, H⟩ := H
    refine pt187 (s' := (22, [some (vr 297), some (vi (x1 + 1))], [], (Wd S L (am_up F 298 x1.toNat (F 299 ((134 * (F 297 2)) + x1).toNat)) G h))) (by decide) [0, 0, 298, 0, 0, 299, 0, 0, 0, 0, 0, 0, 0, 0, 0, 0] rfl ⟨⟨⟨⟨⟨⟨trivial, ⟨⟨g1, (by decide : R32 134)⟩, c2⟩⟩, ⟨Nat.le_of_ble_eq_true rfl, rfl, hh _ _ _ rfl⟩⟩, ⟨Nat.le_of_ble_eq_true rfl, rfl, hh _ _ _ rfl⟩⟩, ⟨Nat.le_of_ble_eq_true rfl, rfl⟩⟩, (ix ⟨Nat.le_of_ble_eq_true rfl, rfl⟩ g3)⟩, (ix ⟨Nat.le_of_ble_eq_true rfl, rfl⟩ g4)⟩ ?_
    exact wp.weak (a := [some (vr 297), some (vi (x1 + 1))]) ⟨rfl, rfl, trivial⟩ H
set_option maxRecDepth 100000 in
set_option maxHeartbeats 4000000 in
theorem T188_0 {S L : Nat} {F G : Nat → Nat → Int} {h : Nat → Nat → Option Nat} (hh : RfH h) {a1 : Int}  {Q : Option V2 → W2 → Prop}
    (H : (R32 a1 ∧
 (if 0 ≤ a1 then
  Q (some (vi (F 298 5))) (Wd S L (am_up F 298 5 a1) G h)
 else
  Q (some (vi (-1))) (Wd S L F G h)))) : C188_0 a1 (Wd S L F G h) Q := by
  obtain ⟨g1, H⟩ := H
  refine pt188 (s' := (1, [some (vr 297), some (vi a1), none], [vi a1], (Wd S L F G h))) (by decide) [0] rfl trivial ?_
  by_cases c2 : 0 ≤ a1
  · rw [if_pos c2] at H
    refine pt188 (s' := (21, [some (vr 297), some (vi a1), some (vi (F 298 5))], [vi (F 298 5)], (Wd S L (am_up F 298 5 a1) G h))) (by decide) [1, 0, 298, 0, 0, 0, 0, 298, 0, 0, 0, 0] rfl ⟨⟨⟨⟨⟨trivial, ⟨g1, c2⟩⟩, ⟨Nat.le_of_ble_eq_true rfl, rfl, hh _ _ _ rfl⟩⟩, (ix ⟨Nat.le_of_ble_eq_true rfl, rfl⟩ (by decide : (0 : Int) ≤ 5 ∧ (5 : Int) < 134))⟩, ⟨Nat.le_of_ble_eq_true rfl, rfl, hh _ _ _ rfl⟩⟩, (ix ⟨Nat.le_of_ble_eq_true rfl, rfl⟩ (by decide : (0 : Int) ≤ 5 ∧ (5 : Int) < 134))⟩ ?_
    exact wp.fin (v := some (vi (F 298 5))) (by decide) am_m188 rfl ⟨_, rfl, Or.inl rfl, rfl⟩ H
  · rw [if_neg c2] at H
    refine pt188 (s' := (5, [some (vr 297), some (vi a1), none], [vi (-1)], (Wd S L F G h))) (by decide) [0, 0] rfl ⟨trivial, ⟨g1, c2⟩⟩ ?_
    exact wp.fin (v := some (vi (-1))) (by decide) am_m188 rfl ⟨_, rfl, Or.inl rfl, rfl⟩ H
set_option maxRecDepth 100000 in
set_option maxHeartbeats 4000000 in
theorem T189_0 {S L : Nat} {F G : Nat → Nat → Int} {h : Nat → Nat → Option Nat} (hh : RfH h)   {Q : Option V2 → W2 → Prop}
    (H : C189_2 0 (Wd S L F G h) Q) : C189_0  (Wd S L F G h) Q := by
  refine pt189 (s' := (2, [some (vr 297), some (vi 0)], [], (Wd S L F G h))) (by decide) [0, 0] rfl trivial ?_
  exact wp.weak (a := [some (vr 297), some (vi 0)]) ⟨rfl, rfl, trivial⟩ H
set_option maxRecDepth 100000 in
set_option maxHeartbeats 4000000 in
theorem T189_2 {S L : Nat} {F G : Nat → Nat → Int} {h : Nat → Nat → Option Nat} (hh : RfH h) {x1 : Int}  {Q : Option V2 → W2 → Prop}
    (H : (R32 x1 ∧
 (if 134 ≤ x1 then
  C189_29 0 (Wd S L F G h) Q
 else
  ((0 ≤ x1 ∧ x1 < 134) ∧
  C189_2 (x1 + 1) (Wd S L (am_up F 300 x1.toNat (F 298 x1.toNat)) G h) Q)))) : C189_2 x1 (Wd S L F G h) Q := by
  obtain ⟨g1, H⟩ := H
  refine pt189 (s' := (6, [some (vr 297), some (vi x1)], [vi 134, vi x1], (Wd S L F G h))) (by decide) [0, 0] rfl trivial ?_
  by_cases c2 : 134 ≤ x1
  · rw [if_pos c2] at H
    refine pt189 (s' := (29, [some (vr 297), some (vi 0)], [], (Wd S L F G h))) (by decide) [1, 0, 0] rfl ⟨trivial, ⟨⟨g1, (by decide : R32 134)⟩, c2⟩⟩ ?_
    exact wp.weak (a := [some (vr 297), some (vi 0)]) ⟨rfl, rfl, trivial⟩ H
  · rw [if_neg c2] at H
    obtain ⟨g3, H⟩ := H
    refine pt189 (s' := (2, [some (vr 297), some (vi (x1 + 1))], [], (Wd S L (am_up F 300 x1.toNat (F 298 x1.toNat)) G h))) (by decide) [0, 0, 300, 0, 0, 298, 0, 0, 0, 0, 0] rfl ⟨⟨⟨⟨⟨trivial, ⟨⟨g1, (by decide : R32 134)⟩, c2⟩⟩, ⟨Nat.le_of_ble_eq_true rfl, rfl, hh _ _ _ rfl⟩⟩, ⟨Nat.le_of_ble_eq_true rfl, rfl, hh _ _ _ rfl⟩⟩, (ix ⟨Nat.le_of_ble_eq_true rfl, rfl⟩ g3)⟩, (ix ⟨Nat.le_of_ble_eq_true rfl, rfl⟩ g3)⟩ ?_
    exact wp.weak (a := [some (vr 297), some (vi (x1 + 1))]) ⟨rfl, rfl, trivial⟩ H
set_option maxRecDepth 100000 in
set_option maxHeartbeats 4000000 in
theorem T189_29 {S L : Nat} {F G : Nat → Nat → Int} {h : Nat → Nat → Option Nat} (hh : RfH h) {x1 : Int}  {Q : Option V2 → W2 → Prop}
    (H : (R32 x1 ∧
 (if 804 ≤ x1 then
  Q (some (vi 1)) (Wd S L (am_up F 297 5 (F 297 2)) G h)
 else
  ((0 ≤ x1 ∧ x1 < 804) ∧
  C189_29 (x1 + 1) (Wd S L (am_up F 301 x1.toNat (F 299 x1.toNat)) G h) Q)))) : C189_29 x1 (Wd S L F G h) Q := by
  obtain ⟨g1, H⟩ := H
  refine pt189 (s' := (33, [some (vr 297), some (vi x1)], [vi 804, vi x1], (Wd S L F G h))) (by decide) [0, 0] rfl trivial ?_
  by_cases c2 : 804 ≤ x1
  · rw [if_pos c2] at H
    refine pt189 (s' := (63, [some (vr 297), some (vi x1)], [vi 1], (Wd S L (am_up F 297 5 (F 297 2)) G h))) (by decide) [1, 0, 0, 0, 0, 0] rfl ⟨⟨⟨trivial, ⟨⟨g1, (by decide : R32 804)⟩, c2⟩⟩, ⟨Nat.le_of_ble_eq_true rfl, rfl⟩⟩, ⟨Nat.le_of_ble_eq_true rfl, rfl, fun h => by cases h⟩⟩ ?_
    exact wp.fin (v := some (vi 1)) (by decide) am_m189 rfl ⟨_, rfl, Or.inl rfl, rfl⟩ H
  · rw [if_neg c2] at H
    obtain ⟨g3, H⟩ := H
    refine pt189 (s' := (29, [some (vr 297), some (vi (x1 + 1))], [], (Wd S L (am_up F 301 x1.toNat (F 299 x1.toNat)) G h))) (by decide) [0, 0, 301, 0, 0, 299, 0, 0, 0, 0, 0] rfl ⟨⟨⟨⟨⟨trivial, ⟨⟨g1, (by decide : R32 804)⟩, c2⟩⟩, ⟨Nat.le_of_ble_eq_true rfl, rfl, hh _ _ _ rfl⟩⟩, ⟨Nat.le_of_ble_eq_true rfl, rfl, hh _ _ _ rfl⟩⟩, (ix ⟨Nat.le_of_ble_eq_true rfl, rfl⟩ g3)⟩, (ix ⟨Nat.le_of_ble_eq_true rfl, rfl⟩ g3)⟩ ?_
    exact wp.weak (a := [some (vr 297), some (vi (x1 + 1))]) ⟨rfl, rfl, trivial⟩ H
set_option maxRecDepth 100000 in
set_option maxHeartbeats 4000000 in
theorem T190_0 {S L : Nat} {F G : Nat → Nat → Int} {h : Nat → Nat → Option Nat} (hh : RfH h)   {Q : Option V2 → W2 → Prop}
    (H : (R32 (F 297 5) ∧
 (if 0 ≤ (F 297 5) then
  C190_12 0 (Wd S L F G h) Q
 else
  Q (some (vi (-4))) (Wd S L F G h)))) : C190_0  (Wd S L F G h) Q := by
  obtain ⟨g1, H⟩ := H
  refine pt190 (s' := (4, [some (vr 297), none], [vi (F 297 5)], (Wd S L F G h))) (by decide) [0, 0] rfl ⟨trivial, ⟨Nat.le_of_ble_eq_true rfl, rfl⟩⟩ ?_
  by_cases c2 : 0 ≤ (F 297 5)
  · rw [if_pos c2] at H
    refine pt190 (s' := (12, [some (vr 297), some (vi 0)], [], (Wd S L F G h))) (by decide) [1, 0, 0] rfl ⟨trivial, ⟨g1, c2⟩⟩ ?_
    exact wp.weak (a := [some (vr 297), some (vi 0)]) ⟨rfl, rfl, trivial⟩ H
  · rw [if_neg c2] at H
    refine pt190 (s' := (9, [some (vr 297), none], [vi (-4)], (Wd S L F G h))) (by decide) [0, 0] rfl ⟨trivial, ⟨g1, c2⟩⟩ ?_
    exact wp.fin (v := some (vi (-4))) (by decide) am_m190 rfl ⟨_, rfl, Or.inl rfl, rfl⟩ H
set_option maxRecDepth 100000 in
set_option maxHeartbeats 4000000 in
theorem T190_12 {S L : Nat} {F G : Nat → Nat → Int} {h : Nat → Nat → Option Nat} (hh : RfH h) {x1 : Int}  {Q : Option V2 → W2 → Prop}
    (H : (R32 x1 ∧
 (if 134 ≤ x1 then
  C190_39 0 (Wd S L F G h) Q
 else
  ((0 ≤ x1 ∧ x1 < 134) ∧
  C190_12 (x1 + 1) (Wd S L (am_up F 298 x1.toNat (F 300 x1.toNat)) G h) Q)))) : C190_12 x1 (Wd S L F G h) Q := by
  obtain ⟨g1, H⟩ := H
  refine pt190 (s' := (16, [some (vr 297), some (vi x1)], [vi 134, vi x1], (Wd S L F G h))) (by decide) [0, 0] rfl trivial ?_
  by_cases c2 : 134 ≤ x1
  · rw [if_pos c2] at H
    refine pt190 (s' := (39, [some (vr 297), some (vi 0)], [], (Wd S L F G h))) (by decide) [1, 0, 0] rfl ⟨trivial, ⟨⟨g1, (by decide : R32 134)⟩, c2⟩⟩ ?_
    exact wp.weak (a := [some (vr 297), some (vi 0)]) ⟨rfl, rfl, trivial⟩ H
  · rw [if_neg c2] at H
    obtain ⟨g3, H⟩ := H
    refine pt190 (s' := (12, [some (vr 297), some (vi (x1 + 1))], [], (Wd S L (am_up F 298 x1.toNat (F 300 x1.toNat)) G h))) (by decide) [0, 0, 298, 0, 0, 300, 0, 0, 0, 0, 0] rfl ⟨⟨⟨⟨⟨trivial, ⟨⟨g1, (by decide : R32 134)⟩, c2⟩⟩, ⟨Nat.le_of_ble_eq_true rfl, rfl, hh _ _ _ rfl⟩⟩, ⟨Nat.le_of_ble_eq_true rfl, rfl, hh _ _ _ rfl⟩⟩, (ix ⟨Nat.le_of_ble_eq_true rfl, rfl⟩ g3)⟩, (ix ⟨Nat.le_of_ble_eq_true rfl, rfl⟩ g3)⟩ ?_
    exact wp.weak (a := [some (vr 297), some (vi (x1 + 1))]) ⟨rfl, rfl, trivial⟩ H
set_option maxRecDepth 100000 in
set_option maxHeartbeats 4000000 in
theorem T190_39 {S L : Nat} {F G : Nat → Nat → Int} {h : Nat → Nat → Option Nat} (hh : RfH h) {x1 : Int}  {Q : Option V2 → W2 → Prop}
    (H : (R32 x1 ∧
 (if 804 ≤ x1 then
  Q (some (vi 1)) (Wd S L (am_up F 297 2 (F 297 5)) G h)
 else
  ((0 ≤ x1 ∧ x1 < 804) ∧
  C190_39 (x1 + 1) (Wd S L (am_up F 299 x1.toNat (F 301 x1.toNat)) G h) Q)))) : C190_39 x1 (Wd S L F G h) Q := by
  obtain ⟨g1, H⟩ := H
  refine pt190 (s' := (43, [some (vr 297), some (vi x1)], [vi 804, vi x1], (Wd S L F G h))) (by decide) [0, 0] rfl trivial ?_
  by_cases c2 : 804 ≤ x1
  · rw [if_pos c2] at H
    refine pt190 (s' := (73, [some (vr 297), some (vi x1)], [vi 1], (Wd S L (am_up F 297 2 (F 297 5)) G h))) (by decide) [1, 0, 0, 0, 0, 0] rfl ⟨⟨⟨trivial, ⟨⟨g1, (by decide : R32 804)⟩, c2⟩⟩, ⟨Nat.le_of_ble_eq_true rfl, rfl⟩⟩, ⟨Nat.le_of_ble_eq_true rfl, rfl, fun h => by cases h⟩⟩ ?_
    exact wp.fin (v := some (vi 1)) (by decide) am_m190 rfl ⟨_, rfl, Or.inl rfl, rfl⟩ H
  · rw [if_neg c2] at H
    obtain ⟨g3, H⟩ := H
    refine pt190 (s' := (39, [some (vr 297), some (vi (x1 + 1))], [], (Wd S L (am_up F 299 x1.toNat (F 301 x1.toNat)) G h))) (by decide) [0, 0, 299, 0, 0, 301, 0, 0, 0, 0, 0] rfl ⟨⟨⟨⟨⟨trivial, ⟨⟨g1, (by decide : R32 804)⟩, c2⟩⟩, ⟨Nat.le_of_ble_eq_true rfl, rfl, hh _ _ _ rfl⟩⟩, ⟨Nat.le_of_ble_eq_true rfl, rfl, hh _ _ _ rfl⟩⟩, (ix ⟨Nat.le_of_ble_eq_true rfl, rfl⟩ g3)⟩, (ix ⟨Nat.le_of_ble_eq_true rfl, rfl⟩ g3)⟩ ?_
    exact wp.weak (a := [some (vr 297), some (vi (x1 + 1))]) ⟨rfl, rfl, trivial⟩ H
set_option maxRecDepth 100000 in
set_option maxHeartbeats 4000000 in
theorem T192_0 {S L : Nat} {F G : Nat → Nat → Int} {h : Nat → Nat → Option Nat} (hh : RfH h) {a0 : Int} {a1 : Int}  {Q : Option V2 → W2 → Prop}
    (H : (R32 a0 ∧
 (if a0 = 0 then
  (R32 ((Int32.ofInt ((Int64.ofInt a1).toInt32.toInt)).toInt8.toInt32.toInt) ∧
  Q (some (vj ((Int32.ofInt ((Int64.ofInt a1).toInt32.toInt)).toInt8.toInt32.toInt))) (Wd S L F G h))
 else
  (if a0 = 1 then
   (R32 ((Int32.ofInt ((Int64.ofInt a1).toInt32.toInt)).toInt16.toInt32.toInt) ∧
   Q (some (vj ((Int32.ofInt ((Int64.ofInt a1).toInt32.toInt)).toInt16.toInt32.toInt))) (Wd S L F G h))
  else
   (if a0 = 2 then
    (R32 ((Int64.ofInt a1).toInt32.toInt) ∧
    Q (some (vj ((Int64.ofInt a1).toInt32.toInt))) (Wd S L F G h))
   else
    Q (some (vj a1)) (Wd S L F G h)))))) : C192_0 a0 a1 (Wd S L F G h) Q := by
  obtain ⟨g1, H⟩ := H
  refine pt192 (s' := (1, [some (vi a0), some (vj a1), none], [vi a0], (Wd S L F G h))) (by decide) [0] rfl trivial ?_
  by_cases c2 : a0 = 0
  · rw [if_pos c2] at H
    obtain ⟨g3, H⟩ := H
    refine pt192 (s' := (35, [some (vi a0), some (vj a1), none], [vj ((Int32.ofInt ((Int64.ofInt a1).toInt32.toInt)).toInt8.toInt32.toInt)], (Wd S L F G h))) (by decide) [0, 0, 1, 0, 0, 0] rfl ⟨⟨trivial, ⟨g1, c2⟩⟩, g3⟩ ?_
    exact wp.fin (v := some (vj ((Int32.ofInt ((Int64.ofInt a1).toInt32.toInt)).toInt8.toInt32.toInt))) (by decide) am_m192 rfl ⟨_, rfl, rfl, rfl⟩ H
  · rw [if_neg c2] at H
    refine pt192 (s' := (13, [some (vi a0), some (vj a1), none], [vi 1, vi a0], (Wd S L F G h))) (by decide) [1, 0, 0] rfl ⟨trivial, ⟨g1, c2⟩⟩ ?_
    by_cases c4 : a0 = 1
    · rw [if_pos c4] at H
      obtain ⟨g5, H⟩ := H
      refine pt192 (s' := (35, [some (vi a0), some (vj a1), none], [vj ((Int32.ofInt ((Int64.ofInt a1).toInt32.toInt)).toInt16.toInt32.toInt)], (Wd S L F G h))) (by decide) [0, 0, 1, 0, 0, 0] rfl ⟨⟨trivial, ⟨⟨g1, (by decide : R32 1)⟩, c4⟩⟩, g5⟩ ?_
      exact wp.fin (v := some (vj ((Int32.ofInt ((Int64.ofInt a1).toInt32.toInt)).toInt16.toInt32.toInt))) (by decide) am_m192 rfl ⟨_, rfl, rfl, rfl⟩ H
    · rw [if_neg c4] at H
      refine pt192 (s' := (25, [some (vi a0), some (vj a1), none], [vi 2, vi a0], (Wd S L F G h))) (by decide) [1, 0, 0] rfl ⟨trivial, ⟨⟨g1, (by decide : R32 1)⟩, c4⟩⟩ ?_
      by_cases c6 : a0 = 2
      · rw [if_pos c6] at H
        obtain ⟨g7, H⟩ := H
        refine pt192 (s' := (35, [some (vi a0), some (vj a1), none], [vj ((Int64.ofInt a1).toInt32.toInt)], (Wd S L F G h))) (by decide) [0, 0, 1, 0, 0] rfl ⟨⟨trivial, ⟨⟨g1, (by decide : R32 2)⟩, c6⟩⟩, g7⟩ ?_
        exact wp.fin (v := some (vj ((Int64.ofInt a1).toInt32.toInt))) (by decide) am_m192 rfl ⟨_, rfl, rfl, rfl⟩ H
      · rw [if_neg c6] at H
        refine pt192 (s' := (35, [some (vi a0), some (vj a1), none], [vj a1], (Wd S L F G h))) (by decide) [1, 0] rfl ⟨trivial, ⟨⟨g1, (by decide : R32 2)⟩, c6⟩⟩ ?_
        exact wp.fin (v := some (vj a1)) (by decide) am_m192 rfl ⟨_, rfl, rfl, rfl⟩ H
set_option maxRecDepth 100000 in
set_option maxHeartbeats 4000000 in
theorem T193_0 {S L : Nat} {F G : Nat → Nat → Int} {h : Nat → Nat → Option Nat} (hh : RfH h) {a1 : Int} {a2 : Int} {a3 : Int} {a4 : Int}  {Q : Option V2 → W2 → Prop}
    (H : ((0 ≤ a1 ∧ a1 < 4) ∧
 R32 (F 303 a1.toNat) ∧
 (if 0 ≤ (F 303 a1.toNat) then
  (R32 a2 ∧
  (if (F 303 a1.toNat) = a2 then
   (R32 a3 ∧
   (if a3 < 0 then
    Q (some (vi (-13))) (Wd S L F G h)
   else
    (R32 a4 ∧
    R32 ((F 304 a1.toNat) - a3) ∧
    (if a4 ≤ ((F 304 a1.toNat) - a3) then
     Q (some (vi 0)) (Wd S L F G h)
    else
     Q (some (vi (-13))) (Wd S L F G h)))))
  else
   Q (some (vi (-12))) (Wd S L F G h)))
 else
  Q (some (vi (-11))) (Wd S L F G h)))) : C193_0 a1 a2 a3 a4 (Wd S L F G h) Q := by
  obtain ⟨g1, H⟩ := H
  obtain ⟨g2, H⟩ := H
  refine pt193 (s' := (6, [some (vr 297), some (vi a1), some (vi a2), some (vi a3), some (vi a4)], [vi (F 303 a1.toNat)], (Wd S L F G h))) (by decide) [0, 303, 0, 0] rfl ⟨⟨trivial, ⟨Nat.le_of_ble_eq_true rfl, rfl, hh _ _ _ rfl⟩⟩, (ix ⟨Nat.le_of_ble_eq_true rfl, rfl⟩ g1)⟩ ?_
  by_cases c3 : 0 ≤ (F 303 a1.toNat)
  · rw [if_pos c3] at H
    obtain ⟨g4, H⟩ := H
    refine pt193 (s' := (19, [some (vr 297), some (vi a1), some (vi a2), some (vi a3), some (vi a4)], [vi a2, vi (F 303 a1.toNat)], (Wd S L F G h))) (by decide) [1, 0, 303, 0, 0, 0] rfl ⟨⟨⟨trivial, ⟨g2, c3⟩⟩, ⟨Nat.le_of_ble_eq_true rfl, rfl, hh _ _ _ rfl⟩⟩, (ix ⟨Nat.le_of_ble_eq_true rfl, rfl⟩ g1)⟩ ?_
    by_cases c5 : (F 303 a1.toNat) = a2
    · rw [if_pos c5] at H
      obtain ⟨g6, H⟩ := H
      refine pt193 (s' := (26, [some (vr 297), some (vi a1), some (vi a2), some (vi a3), some (vi a4)], [vi a3], (Wd S L F G h))) (by decide) [1, 0] rfl ⟨trivial, ⟨⟨g2, g4⟩, c5⟩⟩ ?_
      by_cases c7 : a3 < 0
      · rw [if_pos c7] at H
        refine pt193 (s' := (48, [some (vr 297), some (vi a1), some (vi a2), some (vi a3), some (vi a4)], [vi (-13)], (Wd S L F G h))) (by decide) [1, 0, 0] rfl ⟨trivial, ⟨g6, c7⟩⟩ ?_
        exact wp.fin (v := some (vi (-13))) (by decide) am_m193 rfl ⟨_, rfl, Or.inl rfl, rfl⟩ H
      · rw [if_neg c7] at H
        obtain ⟨g8, H⟩ := H
        obtain ⟨g9, H⟩ := H
        refine pt193 (s' := (39, [some (vr 297), some (vi a1), some (vi a2), some (vi a3), some (vi a4)], [vi ((F 304 a1.toNat) - a3), vi a4], (Wd S L F G h))) (by decide) [0, 0, 0, 304, 0, 0, 0, 0] rfl ⟨⟨⟨trivial, ⟨g6, c7⟩⟩, ⟨Nat.le_of_ble_eq_true rfl, rfl, hh _ _ _ rfl⟩⟩, (ix ⟨Nat.le_of_ble_eq_true rfl, rfl⟩ g1)⟩ ?_
        by_cases c10 : a4 ≤ ((F 304 a1.toNat) - a3)
        · rw [if_pos c10] at H
          refine pt193 (s' := (48, [some (vr 297), some (vi a1), some (vi a2), some (vi a3), some (vi a4)], [vi 0], (Wd S L F G h))) (by decide) [1, 0] rfl ⟨trivial, ⟨⟨g8, g9⟩, c10⟩⟩ ?_
          exact wp.fin (v := some (vi 0)) (by decide) am_m193 rfl ⟨_, rfl, Or.inl rfl, rfl⟩ H
        · rw [if_neg c10] at H
          refine pt193 (s' := (48, [some (vr 297), some (vi a1), some (vi a2), some (vi a3), some (vi a4)], [vi (-13)], (Wd S L F G h))) (by decide) [0, 0, 0] rfl ⟨trivial, ⟨⟨g8, g9⟩, c10⟩⟩ ?_
          exact wp.fin (v := some (vi (-13))) (by decide) am_m193 rfl ⟨_, rfl, Or.inl rfl, rfl⟩ H
    · rw [if_neg c5] at H
      refine pt193 (s' := (24, [some (vr 297), some (vi a1), some (vi a2), some (vi a3), some (vi a4)], [vi (-12)], (Wd S L F G h))) (by decide) [0, 0] rfl ⟨trivial, ⟨⟨g2, g4⟩, c5⟩⟩ ?_
      exact wp.fin (v := some (vi (-12))) (by decide) am_m193 rfl ⟨_, rfl, Or.inl rfl, rfl⟩ H
  · rw [if_neg c3] at H
    refine pt193 (s' := (11, [some (vr 297), some (vi a1), some (vi a2), some (vi a3), some (vi a4)], [vi (-11)], (Wd S L F G h))) (by decide) [0, 0] rfl ⟨trivial, ⟨g2, c3⟩⟩ ?_
    exact wp.fin (v := some (vi (-11))) (by decide) am_m193 rfl ⟨_, rfl, Or.inl rfl, rfl⟩ H
set_option maxRecDepth 100000 in
set_option maxHeartbeats 4000000 in
theorem T194_0 {S L : Nat} {F G : Nat → Nat → Int} {h : Nat → Nat → Option Nat} (hh : RfH h) {a1 : Int} {a2 : Int} {a3 : Int} {a4 : Int}  {Q : Option V2 → W2 → Prop}
    (H : (R32 a1 ∧
 (if a1 < 0 then
  Q (some (vi (-1))) (Wd S L F G h)
 else
  (if 3 < a1 then
   Q (some (vi (-1))) (Wd S L F G h)
  else
   (R32 a2 ∧
   (if a2 < 0 then
    Q (some (vi (-1))) (Wd S L F G h)
   else
    (if 3 < a2 then
     Q (some (vi (-1))) (Wd S L F G h)
    else
     (R32 a4 ∧
     (if a4 < 1 then
      Q (some (vi (-1))) (Wd S L F G h)
     else
      (if 6 < a4 then
       Q (some (vi (-1))) (Wd S L F G h)
      else
       C193_0 a1 a2 a3 a4 (Wd S L F G h) (fun v w1 => ∃ (v10 : Int), v = some (vi v10) ∧ w1 = (Wd S L F G h) ∧
        (R32 v10 ∧
        (if 0 ≤ v10 then
         C194_59 a1 a3 a4 0 0 (Wd S L F G h) Q
        else
         Q (some (vi v10)) (Wd S L F G h)))))))))))))) : C194_0 a1 a2 a3 a4 (Wd S L F G h) Q := by
  refine pt194 (s' := (1, [some (vr 297), some (vi a1), some (vi a2), some (vi a3), some (vi a4), none, none, none, none], [vi a1], (Wd S L F G h))) (by decide) [0] rfl trivial ?_
  refine wp.cl am_m194 rfl am_m191 7 [vi a1] [] rfl (Nat.le_of_ble_eq_true rfl) (Nat.le_of_ble_eq_true rfl) rfl (Nat.le_of_ble_eq_true rfl) rfl (Nat.le_of_ble_eq_true rfl) (Nat.le_of_ble_eq_true rfl) trivial ?_
  obtain ⟨g1, H⟩ := H
  refine pt191 (s' := (6, [some (vi a1)], [vj 3, vj 0, vj a1], (Wd S L F G h))) (by decide) [0, 0, 0, 0] rfl ⟨trivial, g1⟩ ?_
  refine wp.cl am_m191 rfl am_m112 6 [vj a1, vj 0, vj 3] [] rfl (Nat.le_of_ble_eq_true rfl) (Nat.le_of_ble_eq_true rfl) rfl (Nat.le_of_ble_eq_true rfl) rfl (Nat.le_of_ble_eq_true rfl) (Nat.le_of_ble_eq_true rfl) trivial ?_
  refine pt112 (s' := (3, [some (vj a1), none, some (vj 0), none, some (vj 3), none], [vi (y_cmp a1 0)], (Wd S L F G h))) (by decide) [0, 0, 0] rfl ⟨trivial, ⟨(r64 g1), (by decide : R64 0)⟩⟩ ?_
  by_cases c2 : a1 < 0
  · rw [if_pos c2] at H
    refine pt112 (s' := (18, [some (vj a1), none, some (vj 0), none, some (vj 3), none], [vi 0], (Wd S L F G h))) (by decide) [1, 0] rfl ⟨trivial, ⟨y_cmp_r32, (y_cmp_lt.mpr c2)⟩⟩ ?_
    refine wp.fin (v := some (vi 0)) (by decide) am_m112 rfl ⟨_, rfl, Or.inr ⟨rfl, Or.inl rfl⟩, rfl⟩ ?_
    show wp 7 191 (9, [some (vi a1)], [vi 0], (Wd S L F G h)) _
    refine wp.fin (v := some (vi 0)) (by decide) am_m191 rfl ⟨_, rfl, Or.inr ⟨rfl, Or.inl rfl⟩, rfl⟩ ?_
    show wp 8 194 (4, [some (vr 297), some (vi a1), some (vi a2), some (vi a3), some (vi a4), none, none, none, none], [vi 0], (Wd S L F G h)) _
    refine pt194 (s' := (33, [some (vr 297), some (vi a1), some (vi a2), some (vi a3), some (vi a4), none, none, none, none], [vi (-1)], (Wd S L F G h))) (by decide) [1, 0] rfl ⟨trivial, ⟨(by decide : R32 0), (by decide : (0 : Int) = (0 : Int))⟩⟩ ?_
    exact wp.fin (v := some (vi (-1))) (by decide) am_m194 rfl ⟨_, rfl, Or.inl rfl, rfl⟩ H
  · rw [if_neg c2] at H
    refine pt112 (s' := (10, [some (vj a1), none, some (vj 0), none, some (vj 3), none], [vi (y_cmp a1 3)], (Wd S L F G h))) (by decide) [0, 0, 0, 0] rfl ⟨⟨trivial, ⟨y_cmp_r32, (fun e => c2 (y_cmp_lt.mp e))⟩⟩, ⟨(r64 g1), (by decide : R64 3)⟩⟩ ?_
    by_cases c3 : 3 < a1
    · rw [if_pos c3] at H
      refine pt112 (s' := (18, [some (vj a1), none, some (vj 0), none, some (vj 3), none], [vi 0], (Wd S L F G h))) (by decide) [1, 0] rfl ⟨trivial, ⟨y_cmp_r32, (y_cmp_gt.mpr c3)⟩⟩ ?_
      refine wp.fin (v := some (vi 0)) (by decide) am_m112 rfl ⟨_, rfl, Or.inr ⟨rfl, Or.inl rfl⟩, rfl⟩ ?_
      show wp 7 191 (9, [some (vi a1)], [vi 0], (Wd S L F G h)) _
      refine wp.fin (v := some (vi 0)) (by decide) am_m191 rfl ⟨_, rfl, Or.inr ⟨rfl, Or.inl rfl⟩, rfl⟩ ?_
      show wp 8 194 (4, [some (vr 297), some (vi a1), some (vi a2), some (vi a3), some (vi a4), none, none, none, none], [vi 0], (Wd S L F G h)) _
      refine pt194 (s' := (33, [some (vr 297), some (vi a1), some (vi a2), some (vi a3), some (vi a4), none, none, none, none], [vi (-1)], (Wd S L F G h))) (by decide) [1, 0] rfl ⟨trivial, ⟨(by decide : R32 0), (by decide : (0 : Int) = (0 : Int))⟩⟩ ?_
      exact wp.fin (v := some (vi (-1))) (by decide) am_m194 rfl ⟨_, rfl, Or.inl rfl, rfl⟩ H
    · rw [if_neg c3] at H
      refine pt112 (s' := (18, [some (vj a1), none, some (vj 0), none, some (vj 3), none], [vi 1], (Wd S L F G h))) (by decide) [0, 0, 0] rfl ⟨trivial, ⟨y_cmp_r32, (fun e => c3 (y_cmp_gt.mp e))⟩⟩ ?_
      refine wp.fin (v := some (vi 1)) (by decide) am_m112 rfl ⟨_, rfl, Or.inr ⟨rfl, Or.inr rfl⟩, rfl⟩ ?_
      show wp 7 191 (9, [some (vi a1)], [vi 1], (Wd S L F G h)) _
      refine wp.fin (v := some (vi 1)) (by decide) am_m191 rfl ⟨_, rfl, Or.inr ⟨rfl, Or.inr rfl⟩, rfl⟩ ?_
      show wp 8 194 (4, [some (vr 297), some (vi a1), some (vi a2), some (vi a3), some (vi a4), none, none, none, none], [vi 1], (Wd S L F G h)) _
      obtain ⟨g4, H⟩ := H
      refine pt194 (s' := (13, [some (vr 297), some (vi a1), some (vi a2), some (vi a3), some (vi a4), none, none, none, none], [vj 3, vj 0, vj a2], (Wd S L F G h))) (by decide) [0, 0, 0, 0, 0] rfl ⟨⟨trivial, ⟨(by decide : R32 1), (by decide : ¬ (1 : Int) = (0 : Int))⟩⟩, g4⟩ ?_
      refine wp.cl am_m194 rfl am_m112 6 [vj a2, vj 0, vj 3] [] rfl (Nat.le_of_ble_eq_true rfl) (Nat.le_of_ble_eq_true rfl) rfl (Nat.le_of_ble_eq_true rfl) rfl (Nat.le_of_ble_eq_true rfl) (Nat.le_of_ble_eq_true rfl) trivial ?_
      refine pt112 (s' := (3, [some (vj a2), none, some (vj 0), none, some (vj 3), none], [vi (y_cmp a2 0)], (Wd S L F G h))) (by decide) [0, 0, 0] rfl ⟨trivial, ⟨(r64 g4), (by decide : R64 0)⟩⟩ ?_
      by_cases c5 : a2 < 0
      · rw [if_pos c5] at H
        refine pt112 (s' := (18, [some (vj a2), none, some (vj 0), none, some (vj 3), none], [vi 0], (Wd S L F G h))) (by decide) [1, 0] rfl ⟨trivial, ⟨y_cmp_r32, (y_cmp_lt.mpr c5)⟩⟩ ?_
        refine wp.fin (v := some (vi 0)) (by decide) am_m112 rfl ⟨_, rfl, Or.inr ⟨rfl, Or.inl rfl⟩, rfl⟩ ?_
        show wp 8 194 (16, [some (vr 297), some (vi a1), some (vi a2), some (vi a3), some (vi a4), none, none, none, none], [vi 0], (Wd S L F G h)) _
        refine pt194 (s' := (33, [some (vr 297), some (vi a1), some (vi a2), some (vi a3), some (vi a4), none, none, none, none], [vi (-1)], (Wd S L F G h))) (by decide) [1, 0] rfl ⟨trivial, ⟨(by decide : R32 0), (by decide : (0 : Int) = (0 : Int))⟩⟩ ?_
        exact wp.fin (v := some (vi (-1))) (by decide) am_m194 rfl ⟨_, rfl, Or.inl rfl, rfl⟩ H
      · rw [if_neg c5] at H
        refine pt112 (s' := (10, [some (vj a2), none, some (vj 0), none, some (vj 3), none], [vi (y_cmp a2 3)], (Wd S L F G h))) (by decide) [0, 0, 0, 0] rfl ⟨⟨trivial, ⟨y_cmp_r32, (fun e => c5 (y_cmp_lt.mp e))⟩⟩, ⟨(r64 g4), (by decide : R64 3)⟩⟩ ?_
        by_cases c6 : 3 < a2
        · rw [if_pos c6] at H
          refine pt112 (s' := (18, [some (vj a2), none, some (vj 0), none, some (vj 3), none], [vi 0], (Wd S L F G h))) (by decide) [1, 0] rfl ⟨trivial, ⟨y_cmp_r32, (y_cmp_gt.mpr c6)⟩⟩ ?_
          refine wp.fin (v := some (vi 0)) (by decide) am_m112 rfl ⟨_, rfl, Or.inr ⟨rfl, Or.inl rfl⟩, rfl⟩ ?_
          show wp 8 194 (16, [some (vr 297), some (vi a1), some (vi a2), some (vi a3), some (vi a4), none, none, none, none], [vi 0], (Wd S L F G h)) _
          refine pt194 (s' := (33, [some (vr 297), some (vi a1), some (vi a2), some (vi a3), some (vi a4), none, none, none, none], [vi (-1)], (Wd S L F G h))) (by decide) [1, 0] rfl ⟨trivial, ⟨(by decide : R32 0), (by decide : (0 : Int) = (0 : Int))⟩⟩ ?_
          exact wp.fin (v := some (vi (-1))) (by decide) am_m194 rfl ⟨_, rfl, Or.inl rfl, rfl⟩ H
        · rw [if_neg c6] at H
          refine pt112 (s' := (18, [some (vj a2), none, some (vj 0), none, some (vj 3), none], [vi 1], (Wd S L F G h))) (by decide) [0, 0, 0] rfl ⟨trivial, ⟨y_cmp_r32, (fun e => c6 (y_cmp_gt.mp e))⟩⟩ ?_
          refine wp.fin (v := some (vi 1)) (by decide) am_m112 rfl ⟨_, rfl, Or.inr ⟨rfl, Or.inr rfl⟩, rfl⟩ ?_
          show wp 8 194 (16, [some (vr 297), some (vi a1), some (vi a2), some (vi a3), some (vi a4), none, none, none, none], [vi 1], (Wd S L F G h)) _
          obtain ⟨g7, H⟩ := H
          refine pt194 (s' := (26, [some (vr 297), some (vi a1), some (vi a2), some (vi a3), some (vi a4), none, none, none, none], [vj 6, vj 1, vj a4], (Wd S L F G h))) (by decide) [0, 0, 0, 0, 0] rfl ⟨⟨trivial, ⟨(by decide : R32 1), (by decide : ¬ (1 : Int) = (0 : Int))⟩⟩, g7⟩ ?_
          refine wp.cl am_m194 rfl am_m112 6 [vj a4, vj 1, vj 6] [] rfl (Nat.le_of_ble_eq_true rfl) (Nat.le_of_ble_eq_true rfl) rfl (Nat.le_of_ble_eq_true rfl) rfl (Nat.le_of_ble_eq_true rfl) (Nat.le_of_ble_eq_true rfl) trivial ?_
          refine pt112 (s' := (3, [some (vj a4), none, some (vj 1), none, some (vj 6), none], [vi (y_cmp a4 1)], (Wd S L F G h))) (by decide) [0, 0, 0] rfl ⟨trivial, ⟨(r64 g7), (by decide : R64 1)⟩⟩ ?_
          by_cases c8 : a4 < 1
          · rw [if_pos c8] at H
            refine pt112 (s' := (18, [some (vj a4), none, some (vj 1), none, some (vj 6), none], [vi 0], (Wd S L F G h))) (by decide) [1, 0] rfl ⟨trivial, ⟨y_cmp_r32, (y_cmp_lt.mpr c8)⟩⟩ ?_
            refine wp.fin (v := some (vi 0)) (by decide) am_m112 rfl ⟨_, rfl, Or.inr ⟨rfl, Or.inl rfl⟩, rfl⟩ ?_
            show wp 8 194 (29, [some (vr 297), some (vi a1), some (vi a2), some (vi a3), some (vi a4), none, none, none, none], [vi 0], (Wd S L F G h)) _
            refine pt194 (s' := (33, [some (vr 297), some (vi a1), some (vi a2), some (vi a3), some (vi a4), none, none, none, none], [vi (-1)], (Wd S L F G h))) (by decide) [0, 0] rfl ⟨trivial, ⟨(by decide : R32 0), (by decide : (0 : Int) = (0 : Int))⟩⟩ ?_
            exact wp.fin (v := some (vi (-1))) (by decide) am_m194 rfl ⟨_, rfl, Or.inl rfl, rfl⟩ H
          · rw [if_neg c8] at H
            refine pt112 (s' := (10, [some (vj a4), none, some (vj 1), none, some (vj 6), none], [vi (y_cmp a4 6)], (Wd S L F G h))) (by decide) [0, 0, 0, 0] rfl ⟨⟨trivial, ⟨y_cmp_r32, (fun e => c8 (y_cmp_lt.mp e))⟩⟩, ⟨(r64 g7), (by decide : R64 6)⟩⟩ ?_
            by_cases c9 : 6 < a4
            · rw [if_pos c9] at H
              refine pt112 (s' := (18, [some (vj a4), none, some (vj 1), none, some (vj 6), none], [vi 0], (Wd S L F G h))) (by decide) [1, 0] rfl ⟨trivial, ⟨y_cmp_r32, (y_cmp_gt.mpr c9)⟩⟩ ?_
              refine wp.fin (v := some (vi 0)) (by decide) am_m112 rfl ⟨_, rfl, Or.inr ⟨rfl, Or.inl rfl⟩, rfl⟩ ?_
              show wp 8 194 (29, [some (vr 297), some (vi a1), some (vi a2), some (vi a3), some (vi a4), none, none, none, none], [vi 0], (Wd S L F G h)) _
              refine pt194 (s' := (33, [some (vr 297), some (vi a1), some (vi a2), some (vi a3), some (vi a4), none, none, none, none], [vi (-1)], (Wd S L F G h))) (by decide) [0, 0] rfl ⟨trivial, ⟨(by decide : R32 0), (by decide : (0 : Int) = (0 : Int))⟩⟩ ?_
              exact wp.fin (v := some (vi (-1))) (by decide) am_m194 rfl ⟨_, rfl, Or.inl rfl, rfl⟩ H
            · rw [if_neg c9] at H
              refine pt112 (s' := (18, [some (vj a4), none, some (vj 1), none, some (vj 6), none], [vi 1], (Wd S L F G h))) (by decide) [0, 0, 0] rfl ⟨trivial, ⟨y_cmp_r32, (fun e => c9 (y_cmp_gt.mp e))⟩⟩ ?_
              refine wp.fin (v := some (vi 1)) (by decide) am_m112 rfl ⟨_, rfl, Or.inr ⟨rfl, Or.inr rfl⟩, rfl⟩ ?_
              show wp 8 194 (29, [some (vr 297), some (vi a1), some (vi a2), some (vi a3), some (vi a4), none, none, none, none], [vi 1], (Wd S L F G h)) _
              refine pt194 (s' := (40, [some (vr 297), some (vi a1), some (vi a2), some (vi a3), some (vi a4), none, none, none, none], [vi a4, vi a3, vi a2, vi a1, vr 297], (Wd S L F G h))) (by decide) [1, 0, 0, 0, 0, 0] rfl ⟨trivial, ⟨(by decide : R32 1), (by decide : ¬ (1 : Int) = (0 : Int))⟩⟩ ?_
              refine wp.cl am_m194 rfl am_m193 6 [vr 297, vi a1, vi a2, vi a3, vi a4] [] rfl (Nat.le_of_ble_eq_true rfl) (Nat.le_of_ble_eq_true rfl) rfl (Nat.le_of_ble_eq_true rfl) rfl (Nat.le_of_ble_eq_true rfl) (Nat.le_of_ble_eq_true rfl) ⟨_, _, rfl, Nat.le_of_ble_eq_true rfl, rfl⟩ ?_
              refine wp.mono H ?_
              rintro v w1 ⟨v10, rfl, rfl, H⟩
              show wp 8 194 (43, [some (vr 297), some (vi a1), some (vi a2), some (vi a3), some (vi a4), none, none, none, none], [vi v10], (Wd S L F G h)) _
              obtain ⟨g11, H⟩ := H
              refine pt194 (s' := (47, [some (vr 297), some (vi a1), some (vi a2), some (vi a3), some (vi a4), some (vi v10), none, none, none], [vi v10], (Wd S L F G h))) (by decide) [0, 0] rfl trivial ?_
              by_cases c12 : 0 ≤ v10
              · rw [if_pos c12] at H
                refine pt194 (s' := (59, [some (vr 297), some (vi a1), some (vi a2), some (vi a3), some (vi a4), some (vi v10), some (vi 0), some (vi 0), none], [], (Wd S L F G h))) (by decide) [1, 0, 0, 0, 0] rfl ⟨trivial, ⟨g11, c12⟩⟩ ?_
                exact wp.weak (a := [some (vr 297), some (vi a1), none, some (vi a3), some (vi a4), none, some (vi 0), some (vi 0), none]) ⟨rfl, rfl, rfl, rfl, rfl, rfl, trivial⟩ H
              · rw [if_neg c12] at H
                refine pt194 (s' := (52, [some (vr 297), some (vi a1), some (vi a2), some (vi a3), some (vi a4), some (vi v10), none, none, none], [vi v10], (Wd S L F G h))) (by decide) [0, 0] rfl ⟨trivial, ⟨g11, c12⟩⟩ ?_
                exact wp.fin (v := some (vi v10)) (by decide) am_m194 rfl ⟨_, rfl, Or.inl rfl, rfl⟩ H
set_option maxRecDepth 100000 in
set_option maxHeartbeats 4000000 in
theorem T194_59 {S L : Nat} {F G : Nat → Nat → Int} {h : Nat → Nat → Option Nat} (hh : RfH h) {x1 : Int} {x3 : Int} {x4 : Int} {x6 : Int} {x7 : Int}  {Q : Option V2 → W2 → Prop}
    (H : (R32 x7 ∧
 R32 x4 ∧
 (if x4 ≤ x7 then
  C194_127 x6 0 0 (Wd S L F G h) Q
 else
  ((0 ≤ (((24 * x1) + x3) + x7) ∧ (((24 * x1) + x3) + x7) < 96) ∧
  R64 (G 305 (((24 * x1) + x3) + x7).toNat) ∧
  (if (G 305 (((24 * x1) + x3) + x7).toNat) < 0 then
   Q (some (vi (-2))) (Wd S L F G h)
  else
   (if 7 < (G 305 (((24 * x1) + x3) + x7).toNat) then
    Q (some (vi (-2))) (Wd S L F G h)
   else
    (((0 : Int) ≤ x6 ∧ x6 ≤ 2147483647) ∧
    R32 (x6 % 9) ∧
    R32 ((G 305 (((24 * x1) + x3) + x7).toNat) + 1) ∧
    (if (x6 % 9) = ((G 305 (((24 * x1) + x3) + x7).toNat) + 1) then
     C194_59 x1 x3 x4 x6 (x7 + 1) (Wd S L F G h) Q
    else
     C194_59 x1 x3 x4 (((9 * x6) + (G 305 (((24 * x1) + x3) + x7).toNat)) + 1) (x7 + 1) (Wd S L F G h) Q)))))))) : C194_59 x1 x3 x4 x6 x7 (Wd S L F G h) Q := by
  obtain ⟨g1, H⟩ := H
  obtain ⟨g2, H⟩ := H
  refine pt194 (s' := (63, [some (vr 297), some (vi x1), none, some (vi x3), some (vi x4), none, some (vi x6), some (vi x7), none], [vi x4, vi x7], (Wd S L F G h))) (by decide) [0, 0] rfl trivial ?_
  by_cases c3 : x4 ≤ x7
  · rw [if_pos c3] at H
    refine pt194 (s' := (127, [some (vr 297), some (vi x1), none, some (vi x3), some (vi x4), none, some (vi x6), some (vi 0), some (vi 0)], [], (Wd S L F G h))) (by decide) [1, 0, 0, 0, 0] rfl ⟨trivial, ⟨⟨g1, g2⟩, c3⟩⟩ ?_
    exact wp.weak (a := [some (vr 297), none, none, none, none, none, some (vi x6), some (vi 0), some (vi 0)]) ⟨rfl, rfl, rfl, rfl, trivial⟩ H
  · rw [if_neg c3] at H
    obtain ⟨g4, H⟩ := H
    refine pt194 (s' := (84, [some (vr 297), some (vi x1), none, some (vi x3), some (vi x4), none, some (vi x6), some (vi x7), none], [vj 7, vj 0, vj (G 305 (((24 * x1) + x3) + x7).toNat)], (Wd S L F G h))) (by decide) [0, 0, 305, 0, 0, 0, 0, 0, 0, 0, 0, 0, 0] rfl ⟨⟨⟨trivial, ⟨⟨g1, g2⟩, c3⟩⟩, ⟨Nat.le_of_ble_eq_true rfl, rfl, hh _ _ _ rfl⟩⟩, (ix ⟨Nat.le_of_ble_eq_true rfl, rfl⟩ g4)⟩ ?_
    refine wp.cl am_m194 rfl am_m112 6 [vj (G 305 (((24 * x1) + x3) + x7).toNat), vj 0, vj 7] [] rfl (Nat.le_of_ble_eq_true rfl) (Nat.le_of_ble_eq_true rfl) rfl (Nat.le_of_ble_eq_true rfl) rfl (Nat.le_of_ble_eq_true rfl) (Nat.le_of_ble_eq_true rfl) trivial ?_
    obtain ⟨g5, H⟩ := H
    refine pt112 (s' := (3, [some (vj (G 305 (((24 * x1) + x3) + x7).toNat)), none, some (vj 0), none, some (vj 7), none], [vi (y_cmp (G 305 (((24 * x1) + x3) + x7).toNat) 0)], (Wd S L F G h))) (by decide) [0, 0, 0] rfl ⟨trivial, ⟨g5, (by decide : R64 0)⟩⟩ ?_
    by_cases c6 : (G 305 (((24 * x1) + x3) + x7).toNat) < 0
    · rw [if_pos c6] at H
      refine pt112 (s' := (18, [some (vj (G 305 (((24 * x1) + x3) + x7).toNat)), none, some (vj 0), none, some (vj 7), none], [vi 0], (Wd S L F G h))) (by decide) [1, 0] rfl ⟨trivial, ⟨y_cmp_r32, (y_cmp_lt.mpr c6)⟩⟩ ?_
      refine wp.fin (v := some (vi 0)) (by decide) am_m112 rfl ⟨_, rfl, Or.inr ⟨rfl, Or.inl rfl⟩, rfl⟩ ?_
      show wp 8 194 (87, [some (vr 297), some (vi x1), none, some (vi x3), some (vi x4), none, some (vi x6), some (vi x7), none], [vi 0], (Wd S L F G h)) _
      refine pt194 (s' := (92, [some (vr 297), some (vi x1), none, some (vi x3), some (vi x4), none, some (vi x6), some (vi x7), none], [vi (-2)], (Wd S L F G h))) (by decide) [0, 0] rfl ⟨trivial, ⟨(by decide : R32 0), (by decide : (0 : Int) = (0 : Int))⟩⟩ ?_
      exact wp.fin (v := some (vi (-2))) (by decide) am_m194 rfl ⟨_, rfl, Or.inl rfl, rfl⟩ H
    · rw [if_neg c6] at H
      refine pt112 (s' := (10, [some (vj (G 305 (((24 * x1) + x3) + x7).toNat)), none, some (vj 0), none, some (vj 7), none], [vi (y_cmp (G 305 (((24 * x1) + x3) + x7).toNat) 7)], (Wd S L F G h))) (by decide) [0, 0, 0, 0] rfl ⟨⟨trivial, ⟨y_cmp_r32, (fun e => c6 (y_cmp_lt.mp e))⟩⟩, ⟨g5, (by decide : R64 7)⟩⟩ ?_
      by_cases c7 : 7 < (G 305 (((24 * x1) + x3) + x7).toNat)
      · rw [if_pos c7] at H
        refine pt112 (s' := (18, [some (vj (G 305 (((24 * x1) + x3) + x7).toNat)), none, some (vj 0), none, some (vj 7), none], [vi 0], (Wd S L F G h))) (by decide) [1, 0] rfl ⟨trivial, ⟨y_cmp_r32, (y_cmp_gt.mpr c7)⟩⟩ ?_
        refine wp.fin (v := some (vi 0)) (by decide) am_m112 rfl ⟨_, rfl, Or.inr ⟨rfl, Or.inl rfl⟩, rfl⟩ ?_
        show wp 8 194 (87, [some (vr 297), some (vi x1), none, some (vi x3), some (vi x4), none, some (vi x6), some (vi x7), none], [vi 0], (Wd S L F G h)) _
        refine pt194 (s' := (92, [some (vr 297), some (vi x1), none, some (vi x3), some (vi x4), none, some (vi x6), some (vi x7), none], [vi (-2)], (Wd S L F G h))) (by decide) [0, 0] rfl ⟨trivial, ⟨(by decide : R32 0), (by decide : (0 : Int) = (0 : Int))⟩⟩ ?_
        exact wp.fin (v := some (vi (-2))) (by decide) am_m194 rfl ⟨_, rfl, Or.inl rfl, rfl⟩ H
      · rw [if_neg c7] at H
        refine pt112 (s' := (18, [some (vj (G 305 (((24 * x1) + x3) + x7).toNat)), none, some (vj 0), none, some (vj 7), none], [vi 1], (Wd S L F G h))) (by decide) [0, 0, 0] rfl ⟨trivial, ⟨y_cmp_r32, (fun e => c7 (y_cmp_gt.mp e))⟩⟩ ?_
        refine wp.fin (v := some (vi 1)) (by decide) am_m112 rfl ⟨_, rfl, Or.inr ⟨rfl, Or.inr rfl⟩, rfl⟩ ?_
        show wp 8 194 (87, [some (vr 297), some (vi x1), none, some (vi x3), some (vi x4), none, some (vi x6), some (vi x7), none], [vi 1], (Wd S L F G h)) _
        refine pt194 (s' := (110, [some (vr 297), some (vi x1), none, some (vi x3), some (vi x4), none, some (vi x6), some (vi x7), none], [vi (G 305 (((24 * x1) + x3) + x7).toNat), vi x6], (Wd S L F G h))) (by decide) [1, 0, 0, 305, 0, 0, 0, 0, 0, 0, 0, 0, 0] rfl ⟨⟨⟨trivial, ⟨(by decide : R32 1), (by decide : ¬ (1 : Int) = (0 : Int))⟩⟩, ⟨Nat.le_of_ble_eq_true rfl, rfl, hh _ _ _ rfl⟩⟩, (ix ⟨Nat.le_of_ble_eq_true rfl, rfl⟩ g4)⟩ ?_
        refine wp.cl am_m194 rfl am_m146 6 [vi x6, vi (G 305 (((24 * x1) + x3) + x7).toNat)] [] rfl (Nat.le_of_ble_eq_true rfl) (Nat.le_of_ble_eq_true rfl) rfl (Nat.le_of_ble_eq_true rfl) rfl (Nat.le_of_ble_eq_true rfl) (Nat.le_of_ble_eq_true rfl) trivial ?_
        obtain ⟨g8, H⟩ := H
        obtain ⟨g9, H⟩ := H
        obtain ⟨g10, H⟩ := H
        refine pt146 (s' := (7, [some (vi x6), some (vi (G 305 (((24 * x1) + x3) + x7).toNat))], [vi ((G 305 (((24 * x1) + x3) + x7).toNat) + 1), vi (x6 % 9)], (Wd S L F G h))) (by decide) [0, 0, 0, 0, 0, 0] rfl ⟨trivial, ⟨g8.1, g8.2, (by decide : (0 : Int) < 9), (by decide : (9 : Int) ≤ 2147483647)⟩⟩ ?_
        by_cases c11 : (x6 % 9) = ((G 305 (((24 * x1) + x3) + x7).toNat) + 1)
        · rw [if_pos c11] at H
          refine pt146 (s' := (22, [some (vi x6), some (vi (G 305 (((24 * x1) + x3) + x7).toNat))], [vi x6], (Wd S L F G h))) (by decide) [0, 0, 0] rfl ⟨trivial, ⟨⟨g9, g10⟩, c11⟩⟩ ?_
          refine wp.fin (v := some (vi x6)) (by decide) am_m146 rfl ⟨_, rfl, Or.inl rfl, rfl⟩ ?_
          show wp 8 194 (113, [some (vr 297), some (vi x1), none, some (vi x3), some (vi x4), none, some (vi x6), some (vi x7), none], [vi x6], (Wd S L F G h)) _
          refine pt194 (s' := (59, [some (vr 297), some (vi x1), none, some (vi x3), some (vi x4), none, some (vi x6), some (vi (x7 + 1)), none], [], (Wd S L F G h))) (by decide) [0, 0, 0] rfl trivial ?_
          exact wp.weak (a := [some (vr 297), some (vi x1), none, some (vi x3), some (vi x4), none, some (vi x6), some (vi (x7 + 1)), none]) ⟨rfl, rfl, rfl, rfl, rfl, rfl, trivial⟩ H
        · rw [if_neg c11] at H
          refine pt146 (s' := (22, [some (vi x6), some (vi (G 305 (((24 * x1) + x3) + x7).toNat))], [vi (((9 * x6) + (G 305 (((24 * x1) + x3) + x7).toNat)) + 1)], (Wd S L F G h))) (by decide) [1, 0, 0, 0, 0, 0, 0, 0] rfl ⟨trivial, ⟨⟨g9, g10⟩, c11⟩⟩ ?_
          refine wp.fin (v := some (vi (((9 * x6) + (G 305 (((24 * x1) + x3) + x7).toNat)) + 1))) (by decide) am_m146 rfl ⟨_, rfl, Or.inl rfl, rfl⟩ ?_
          show wp 8 194 (113, [some (vr 297), some (vi x1), none, some (vi x3), some (vi x4), none, some (vi x6), some (vi x7), none], [vi (((9 * x6) + (G 305 (((24 * x1) + x3) + x7).toNat)) + 1)], (Wd S L F G h)) _
          refine pt194 (s' := (59, [some (vr 297), some (vi x1), none, some (vi x3), some (vi x4), none, some (vi (((9 * x6) + (G 305 (((24 * x1) + x3) + x7).toNat)) + 1)), some (vi (x7 + 1)), none], [], (Wd S L F G h))) (by decide) [0, 0, 0] rfl trivial ?_
          exact wp.weak (a := [some (vr 297), some (vi x1), none, some (vi x3), some (vi x4), none, some (vi (((9 * x6) + (G 305 (((24 * x1) + x3) + x7).toNat)) + 1)), some (vi (x7 + 1)), none]) ⟨rfl, rfl, rfl, rfl, rfl, rfl, trivial⟩ H
set_option maxRecDepth 100000 in
set_option maxHeartbeats 4000000 in
theorem T194_127 {S L : Nat} {F G : Nat → Nat → Int} {h : Nat → Nat → Option Nat} (hh : RfH h) {x6 : Int} {x7 : Int} {x8 : Int}  {Q : Option V2 → W2 → Prop}
    (H : (R32 x8 ∧
 R32 (F 298 1) ∧
 (if (F 298 1) ≤ x8 then
  Q (some (vi x7)) (Wd S L F G h)
 else
  C147_0 x8 (Wd S L F G h) (fun v w1 => ∃ (v4 : Int), v = some (vi v4) ∧ w1 = (Wd S L F G h) ∧
   (R32 v4 ∧
   R32 x6 ∧
   (if v4 = x6 then
    C194_127 x6 ((Int32.ofInt x7 ||| Int32.ofInt ((Int32.ofInt 1 <<< (Int32.ofInt x8 &&& 31)).toInt)).toInt) (x8 + 1) (Wd S L F G h) Q
   else
    C194_127 x6 ((Int32.ofInt x7 ||| Int32.ofInt 0).toInt) (x8 + 1) (Wd S L F G h) Q)))))) : C194_127 x6 x7 x8 (Wd S L F G h) Q := by
  obtain ⟨g1, H⟩ := H
  obtain ⟨g2, H⟩ := H
  refine pt194 (s' := (135, [some (vr 297), none, none, none, none, none, some (vi x6), some (vi x7), some (vi x8)], [vi (F 298 1), vi x8], (Wd S L F G h))) (by decide) [0, 0, 298, 0, 0] rfl ⟨⟨trivial, ⟨Nat.le_of_ble_eq_true rfl, rfl, hh _ _ _ rfl⟩⟩, (ix ⟨Nat.le_of_ble_eq_true rfl, rfl⟩ (by decide : (0 : Int) ≤ 1 ∧ (1 : Int) < 134))⟩ ?_
  by_cases c3 : (F 298 1) ≤ x8
  · rw [if_pos c3] at H
    refine pt194 (s' := (170, [some (vr 297), none, none, none, none, none, some (vi x6), some (vi x7), some (vi x8)], [vi x7], (Wd S L F G h))) (by decide) [1, 0] rfl ⟨trivial, ⟨⟨g1, g2⟩, c3⟩⟩ ?_
    exact wp.fin (v := some (vi x7)) (by decide) am_m194 rfl ⟨_, rfl, Or.inl rfl, rfl⟩ H
  · rw [if_neg c3] at H
    refine pt194 (s' := (143, [some (vr 297), none, none, none, none, none, some (vi x6), some (vi x7), some (vi x8)], [vi x8, vr 297, vi x7], (Wd S L F G h))) (by decide) [0, 0, 0, 0] rfl ⟨trivial, ⟨⟨g1, g2⟩, c3⟩⟩ ?_
    refine wp.cl am_m194 rfl am_m147 7 [vr 297, vi x8] [vi x7] rfl (Nat.le_of_ble_eq_true rfl) (Nat.le_of_ble_eq_true rfl) rfl (Nat.le_of_ble_eq_true rfl) rfl (Nat.le_of_ble_eq_true rfl) (Nat.le_of_ble_eq_true rfl) ⟨_, _, rfl, Nat.le_of_ble_eq_true rfl, rfl⟩ ?_
    refine wp.mono H ?_
    rintro v w1 ⟨v4, rfl, rfl, H⟩
    show wp 8 194 (146, [some (vr 297), none, none, none, none, none, some (vi x6), some (vi x7), some (vi x8)], [vi v4, vi x7], (Wd S L F G h)) _
    obtain ⟨g5, H⟩ := H
    obtain ⟨g6, H⟩ := H
    refine pt194 (s' := (148, [some (vr 297), none, none, none, none, none, some (vi x6), some (vi x7), some (vi x8)], [vi x6, vi v4, vi x7], (Wd S L F G h))) (by decide) [0] rfl trivial ?_
    by_cases c7 : v4 = x6
    · rw [if_pos c7] at H
      refine pt194 (s' := (127, [some (vr 297), none, none, none, none, none, some (vi x6), some (vi ((Int32.ofInt x7 ||| Int32.ofInt ((Int32.ofInt 1 <<< (Int32.ofInt x8 &&& 31)).toInt)).toInt)), some (vi (x8 + 1))], [], (Wd S L F G h))) (by decide) [0, 0, 0, 0, 0, 0, 0, 0, 0] rfl ⟨trivial, ⟨⟨g5, g6⟩, c7⟩⟩ ?_
      exact wp.weak (a := [some (vr 297), none, none, none, none, none, some (vi x6), some (vi ((Int32.ofInt x7 ||| Int32.ofInt ((Int32.ofInt 1 <<< (Int32.ofInt x8 &&& 31)).toInt)).toInt)), some (vi (x8 + 1))]) ⟨rfl, rfl, rfl, rfl, trivial⟩ H
    · rw [if_neg c7] at H
      refine pt194 (s' := (127, [some (vr 297), none, none, none, none, none, some (vi x6), some (vi ((Int32.ofInt x7 ||| Int32.ofInt 0).toInt)), some (vi (x8 + 1))], [], (Wd S L F G h))) (by decide) [1, 0, 0, 0, 0, 0] rfl ⟨trivial, ⟨⟨g5, g6⟩, c7⟩⟩ ?_
      exact wp.weak (a := [some (vr 297), none, none, none, none, none, some (vi x6), some (vi ((Int32.ofInt x7 ||| Int32.ofInt 0).toInt)), some (vi (x8 + 1))]) ⟨rfl, rfl, rfl, rfl, trivial⟩ H
set_option maxRecDepth 100000 in
set_option maxHeartbeats 4000000 in
theorem T195_0 {S L : Nat} {F G : Nat → Nat → Int} {h : Nat → Nat → Option Nat} (hh : RfH h) {a1 : Int} {a2 : Int} {a3 : Int}  {Q : Option V2 → W2 → Prop}
    (H : (R32 a1 ∧
 (if a1 < 0 then
  Q (some (vi (-1))) (Wd S L F G h)
 else
  (if 3 < a1 then
   Q (some (vi (-1))) (Wd S L F G h)
  else
   (R32 a2 ∧
   (if a2 < 0 then
    Q (some (vi (-1))) (Wd S L F G h)
   else
    (if 3 < a2 then
     Q (some (vi (-1))) (Wd S L F G h)
    else
     C193_0 a1 a2 a3 (F 298 0) (Wd S L F G h) (fun v w1 => ∃ (v7 : Int), v = some (vi v7) ∧ w1 = (Wd S L F G h) ∧
      (R32 v7 ∧
      (if 0 ≤ v7 then
       C121_0  (Wd S L F G h) (fun v w1 => ∃ (F10 : Nat → Nat → Int), v = none ∧ w1 = (Wd S L F10 G h) ∧
        C195_51 a1 a2 a3 0 (Wd S L F10 G h) Q)
      else
       Q (some (vi v7)) (Wd S L F G h))))))))))) : C195_0 a1 a2 a3 (Wd S L F G h) Q := by
  refine pt195 (s' := (1, [some (vr 297), some (vi a1), some (vi a2), some (vi a3), none, none], [vi a1], (Wd S L F G h))) (by decide) [0] rfl trivial ?_
  refine wp.cl am_m195 rfl am_m191 7 [vi a1] [] rfl (Nat.le_of_ble_eq_true rfl) (Nat.le_of_ble_eq_true rfl) rfl (Nat.le_of_ble_eq_true rfl) rfl (Nat.le_of_ble_eq_true rfl) (Nat.le_of_ble_eq_true rfl) trivial ?_
  obtain ⟨g1, H⟩ := H
  refine pt191 (s' := (6, [some (vi a1)], [vj 3, vj 0, vj a1], (Wd S L F G h))) (by decide) [0, 0, 0, 0] rfl ⟨trivial, g1⟩ ?_
  refine wp.cl am_m191 rfl am_m112 6 [vj a1, vj 0, vj 3] [] rfl (Nat.le_of_ble_eq_true rfl) (Nat.le_of_ble_eq_true rfl) rfl (Nat.le_of_ble_eq_true rfl) rfl (Nat.le_of_ble_eq_true rfl) (Nat.le_of_ble_eq_true rfl) trivial ?_
  refine pt112 (s' := (3, [some (vj a1), none, some (vj 0), none, some (vj 3), none], [vi (y_cmp a1 0)], (Wd S L F G h))) (by decide) [0, 0, 0] rfl ⟨trivial, ⟨(r64 g1), (by decide : R64 0)⟩⟩ ?_
  by_cases c2 : a1 < 0
  · rw [if_pos c2] at H
    refine pt112 (s' := (18, [some (vj a1), none, some (vj 0), none, some (vj 3), none], [vi 0], (Wd S L F G h))) (by decide) [1, 0] rfl ⟨trivial, ⟨y_cmp_r32, (y_cmp_lt.mpr c2)⟩⟩ ?_
    refine wp.fin (v := some (vi 0)) (by decide) am_m112 rfl ⟨_, rfl, Or.inr ⟨rfl, Or.inl rfl⟩, rfl⟩ ?_
    show wp 7 191 (9, [some (vi a1)], [vi 0], (Wd S L F G h)) _
    refine wp.fin (v := some (vi 0)) (by decide) am_m191 rfl ⟨_, rfl, Or.inr ⟨rfl, Or.inl rfl⟩, rfl⟩ ?_
    show wp 9 195 (4, [some (vr 297), some (vi a1), some (vi a2), some (vi a3), none, none], [vi 0], (Wd S L F G h)) _
    refine pt195 (s' := (20, [some (vr 297), some (vi a1), some (vi a2), some (vi a3), none, none], [vi (-1)], (Wd S L F G h))) (by decide) [1, 0] rfl ⟨trivial, ⟨(by decide : R32 0), (by decide : (0 : Int) = (0 : Int))⟩⟩ ?_
    exact wp.fin (v := some (vi (-1))) (by decide) am_m195 rfl ⟨_, rfl, Or.inl rfl, rfl⟩ H
  · rw [if_neg c2] at H
    refine pt112 (s' := (10, [some (vj a1), none, some (vj 0), none, some (vj 3), none], [vi (y_cmp a1 3)], (Wd S L F G h))) (by decide) [0, 0, 0, 0] rfl ⟨⟨trivial, ⟨y_cmp_r32, (fun e => c2 (y_cmp_lt.mp e))⟩⟩, ⟨(r64 g1), (by decide : R64 3)⟩⟩ ?_
    by_cases c3 : 3 < a1
    · rw [if_pos c3] at H
      refine pt112 (s' := (18, [some (vj a1), none, some (vj 0), none, some (vj 3), none], [vi 0], (Wd S L F G h))) (by decide) [1, 0] rfl ⟨trivial, ⟨y_cmp_r32, (y_cmp_gt.mpr c3)⟩⟩ ?_
      refine wp.fin (v := some (vi 0)) (by decide) am_m112 rfl ⟨_, rfl, Or.inr ⟨rfl, Or.inl rfl⟩, rfl⟩ ?_
      show wp 7 191 (9, [some (vi a1)], [vi 0], (Wd S L F G h)) _
      refine wp.fin (v := some (vi 0)) (by decide) am_m191 rfl ⟨_, rfl, Or.inr ⟨rfl, Or.inl rfl⟩, rfl⟩ ?_
      show wp 9 195 (4, [some (vr 297), some (vi a1), some (vi a2), some (vi a3), none, none], [vi 0], (Wd S L F G h)) _
      refine pt195 (s' := (20, [some (vr 297), some (vi a1), some (vi a2), some (vi a3), none, none], [vi (-1)], (Wd S L F G h))) (by decide) [1, 0] rfl ⟨trivial, ⟨(by decide : R32 0), (by decide : (0 : Int) = (0 : Int))⟩⟩ ?_
      exact wp.fin (v := some (vi (-1))) (by decide) am_m195 rfl ⟨_, rfl, Or.inl rfl, rfl⟩ H
    · rw [if_neg c3] at H
      refine pt112 (s' := (18, [some (vj a1), none, some (vj 0), none, some (vj 3), none], [vi 1], (Wd S L F G h))) (by decide) [0, 0, 0] rfl ⟨trivial, ⟨y_cmp_r32, (fun e => c3 (y_cmp_gt.mp e))⟩⟩ ?_
      refine wp.fin (v := some (vi 1)) (by decide) am_m112 rfl ⟨_, rfl, Or.inr ⟨rfl, Or.inr rfl⟩, rfl⟩ ?_
      show wp 7 191 (9, [some (vi a1)], [vi 1], (Wd S L F G h)) _
      refine wp.fin (v := some (vi 1)) (by decide) am_m191 rfl ⟨_, rfl, Or.inr ⟨rfl, Or.inr rfl⟩, rfl⟩ ?_
      show wp 9 195 (4, [some (vr 297), some (vi a1), some (vi a2), some (vi a3), none, none], [vi 1], (Wd S L F G h)) _
      obtain ⟨g4, H⟩ := H
      refine pt195 (s' := (13, [some (vr 297), some (vi a1), some (vi a2), some (vi a3), none, none], [vj 3, vj 0, vj a2], (Wd S L F G h))) (by decide) [0, 0, 0, 0, 0] rfl ⟨⟨trivial, ⟨(by decide : R32 1), (by decide : ¬ (1 : Int) = (0 : Int))⟩⟩, g4⟩ ?_
      refine wp.cl am_m195 rfl am_m112 6 [vj a2, vj 0, vj 3] [] rfl (Nat.le_of_ble_eq_true rfl) (Nat.le_of_ble_eq_true rfl) rfl (Nat.le_of_ble_eq_true rfl) rfl (Nat.le_of_ble_eq_true rfl) (Nat.le_of_ble_eq_true rfl) trivial ?_
      refine pt112 (s' := (3, [some (vj a2), none, some (vj 0), none, some (vj 3), none], [vi (y_cmp a2 0)], (Wd S L F G h))) (by decide) [0, 0, 0] rfl ⟨trivial, ⟨(r64 g4), (by decide : R64 0)⟩⟩ ?_
      by_cases c5 : a2 < 0
      · rw [if_pos c5] at H
        refine pt112 (s' := (18, [some (vj a2), none, some (vj 0), none, some (vj 3), none], [vi 0], (Wd S L F G h))) (by decide) [1, 0] rfl ⟨trivial, ⟨y_cmp_r32, (y_cmp_lt.mpr c5)⟩⟩ ?_
        refine wp.fin (v := some (vi 0)) (by decide) am_m112 rfl ⟨_, rfl, Or.inr ⟨rfl, Or.inl rfl⟩, rfl⟩ ?_
        show wp 9 195 (16, [some (vr 297), some (vi a1), some (vi a2), some (vi a3), none, none], [vi 0], (Wd S L F G h)) _
        refine pt195 (s' := (20, [some (vr 297), some (vi a1), some (vi a2), some (vi a3), none, none], [vi (-1)], (Wd S L F G h))) (by decide) [0, 0] rfl ⟨trivial, ⟨(by decide : R32 0), (by decide : (0 : Int) = (0 : Int))⟩⟩ ?_
        exact wp.fin (v := some (vi (-1))) (by decide) am_m195 rfl ⟨_, rfl, Or.inl rfl, rfl⟩ H
      · rw [if_neg c5] at H
        refine pt112 (s' := (10, [some (vj a2), none, some (vj 0), none, some (vj 3), none], [vi (y_cmp a2 3)], (Wd S L F G h))) (by decide) [0, 0, 0, 0] rfl ⟨⟨trivial, ⟨y_cmp_r32, (fun e => c5 (y_cmp_lt.mp e))⟩⟩, ⟨(r64 g4), (by decide : R64 3)⟩⟩ ?_
        by_cases c6 : 3 < a2
        · rw [if_pos c6] at H
          refine pt112 (s' := (18, [some (vj a2), none, some (vj 0), none, some (vj 3), none], [vi 0], (Wd S L F G h))) (by decide) [1, 0] rfl ⟨trivial, ⟨y_cmp_r32, (y_cmp_gt.mpr c6)⟩⟩ ?_
          refine wp.fin (v := some (vi 0)) (by decide) am_m112 rfl ⟨_, rfl, Or.inr ⟨rfl, Or.inl rfl⟩, rfl⟩ ?_
          show wp 9 195 (16, [some (vr 297), some (vi a1), some (vi a2), some (vi a3), none, none], [vi 0], (Wd S L F G h)) _
          refine pt195 (s' := (20, [some (vr 297), some (vi a1), some (vi a2), some (vi a3), none, none], [vi (-1)], (Wd S L F G h))) (by decide) [0, 0] rfl ⟨trivial, ⟨(by decide : R32 0), (by decide : (0 : Int) = (0 : Int))⟩⟩ ?_
          exact wp.fin (v := some (vi (-1))) (by decide) am_m195 rfl ⟨_, rfl, Or.inl rfl, rfl⟩ H
        · rw [if_neg c6] at H
          refine pt112 (s' := (18, [some (vj a2), none, some (vj 0), none, some (vj 3), none], [vi 1], (Wd S L F G h))) (by decide) [0, 0, 0] rfl ⟨trivial, ⟨y_cmp_r32, (fun e => c6 (y_cmp_gt.mp e))⟩⟩ ?_
          refine wp.fin (v := some (vi 1)) (by decide) am_m112 rfl ⟨_, rfl, Or.inr ⟨rfl, Or.inr rfl⟩, rfl⟩ ?_
          show wp 9 195 (16, [some (vr 297), some (vi a1), some (vi a2), some (vi a3), none, none], [vi 1], (Wd S L F G h)) _
          refine pt195 (s' := (31, [some (vr 297), some (vi a1), some (vi a2), some (vi a3), none, none], [vi (F 298 0), vi a3, vi a2, vi a1, vr 297], (Wd S L F G h))) (by decide) [1, 0, 0, 0, 0, 0, 298, 0, 0] rfl ⟨⟨⟨trivial, ⟨(by decide : R32 1), (by decide : ¬ (1 : Int) = (0 : Int))⟩⟩, ⟨Nat.le_of_ble_eq_true rfl, rfl, hh _ _ _ rfl⟩⟩, (ix ⟨Nat.le_of_ble_eq_true rfl, rfl⟩ (by decide : (0 : Int) ≤ 0 ∧ (0 : Int) < 134))⟩ ?_
          refine wp.cl am_m195 rfl am_m193 6 [vr 297, vi a1, vi a2, vi a3, vi (F 298 0)] [] rfl (Nat.le_of_ble_eq_true rfl) (Nat.le_of_ble_eq_true rfl) rfl (Nat.le_of_ble_eq_true rfl) rfl (Nat.le_of_ble_eq_true rfl) (Nat.le_of_ble_eq_true rfl) ⟨_, _, rfl, Nat.le_of_ble_eq_true rfl, rfl⟩ ?_
          refine wp.mono H ?_
          rintro v w1 ⟨v7, rfl, rfl, H⟩
          show wp 9 195 (34, [some (vr 297), some (vi a1), some (vi a2), some (vi a3), none, none], [vi v7], (Wd S L F G h)) _
          obtain ⟨g8, H⟩ := H
          refine pt195 (s' := (38, [some (vr 297), some (vi a1), some (vi a2), some (vi a3), some (vi v7), none], [vi v7], (Wd S L F G h))) (by decide) [0, 0] rfl trivial ?_
          by_cases c9 : 0 ≤ v7
          · rw [if_pos c9] at H
            refine pt195 (s' := (45, [some (vr 297), some (vi a1), some (vi a2), some (vi a3), some (vi v7), none], [vr 297], (Wd S L F G h))) (by decide) [1, 0] rfl ⟨trivial, ⟨g8, c9⟩⟩ ?_
            refine wp.cl am_m195 rfl am_m121 8 [vr 297] [] rfl (Nat.le_of_ble_eq_true rfl) (Nat.le_of_ble_eq_true rfl) rfl (Nat.le_of_ble_eq_true rfl) rfl (Nat.le_of_ble_eq_true rfl) (Nat.le_of_ble_eq_true rfl) ⟨_, _, rfl, Nat.le_of_ble_eq_true rfl, rfl⟩ ?_
            refine wp.mono H ?_
            rintro v w1 ⟨F10, rfl, rfl, H⟩
            show wp 9 195 (48, [some (vr 297), some (vi a1), some (vi a2), some (vi a3), some (vi v7), none], [], (Wd S L F10 G h)) _
            refine pt195 (s' := (51, [some (vr 297), some (vi a1), some (vi a2), some (vi a3), some (vi v7), some (vi 0)], [], (Wd S L F10 G h))) (by decide) [0, 0] rfl trivial ?_
            exact wp.weak (a := [some (vr 297), some (vi a1), some (vi a2), some (vi a3), none, some (vi 0)]) ⟨rfl, rfl, rfl, rfl, rfl, trivial⟩ H
          · rw [if_neg c9] at H
            refine pt195 (s' := (43, [some (vr 297), some (vi a1), some (vi a2), some (vi a3), some (vi v7), none], [vi v7], (Wd S L F G h))) (by decide) [0, 0] rfl ⟨trivial, ⟨g8, c9⟩⟩ ?_
            exact wp.fin (v := some (vi v7)) (by decide) am_m195 rfl ⟨_, rfl, Or.inl rfl, rfl⟩ H
set_option maxRecDepth 100000 in
set_option maxHeartbeats 4000000 in
theorem T195_51 {S L : Nat} {F G : Nat → Nat → Int} {h : Nat → Nat → Option Nat} (hh : RfH h) {x1 : Int} {x2 : Int} {x3 : Int} {x5 : Int}  {Q : Option V2 → W2 → Prop}
    (H : (R32 x5 ∧
 R32 (F 298 0) ∧
 (if (F 298 0) ≤ x5 then
  Q (some (vi (F 298 0))) (Wd S L F G h)
 else
  ((0 ≤ x5 ∧ x5 < 12) ∧
  R32 (F 307 x5.toNat) ∧
  C192_0 x2 (F 307 x5.toNat) (Wd S L F G h) (fun v w1 => ∃ (v6 : Int), v = some (vj v6) ∧ w1 = (Wd S L F G h) ∧
   ((0 ≤ (((24 * x1) + x3) + x5) ∧ (((24 * x1) + x3) + x5) < 96) ∧
   C195_51 x1 x2 x3 (x5 + 1) (Wd S L F (am_up G 305 (((24 * x1) + x3) + x5).toNat v6) h) Q)))))) : C195_51 x1 x2 x3 x5 (Wd S L F G h) Q := by
  obtain ⟨g1, H⟩ := H
  obtain ⟨g2, H⟩ := H
  refine pt195 (s' := (59, [some (vr 297), some (vi x1), some (vi x2), some (vi x3), none, some (vi x5)], [vi (F 298 0), vi x5], (Wd S L F G h))) (by decide) [0, 0, 298, 0, 0] rfl ⟨⟨trivial, ⟨Nat.le_of_ble_eq_true rfl, rfl, hh _ _ _ rfl⟩⟩, (ix ⟨Nat.le_of_ble_eq_true rfl, rfl⟩ (by decide : (0 : Int) ≤ 0 ∧ (0 : Int) < 134))⟩ ?_
  by_cases c3 : (F 298 0) ≤ x5
  · rw [if_pos c3] at H
    refine pt195 (s' := (100, [some (vr 297), some (vi x1), some (vi x2), some (vi x3), none, some (vi x5)], [vi (F 298 0)], (Wd S L F G h))) (by decide) [1, 0, 298, 0, 0] rfl ⟨⟨⟨trivial, ⟨⟨g1, g2⟩, c3⟩⟩, ⟨Nat.le_of_ble_eq_true rfl, rfl, hh _ _ _ rfl⟩⟩, (ix ⟨Nat.le_of_ble_eq_true rfl, rfl⟩ (by decide : (0 : Int) ≤ 0 ∧ (0 : Int) < 134))⟩ ?_
    exact wp.fin (v := some (vi (F 298 0))) (by decide) am_m195 rfl ⟨_, rfl, Or.inl rfl, rfl⟩ H
  · rw [if_neg c3] at H
    obtain ⟨g4, H⟩ := H
    obtain ⟨g5, H⟩ := H
    refine pt195 (s' := (84, [some (vr 297), some (vi x1), some (vi x2), some (vi x3), none, some (vi x5)], [vj (F 307 x5.toNat), vi x2, vi (((24 * x1) + x3) + x5), vr 305], (Wd S L F G h))) (by decide) [0, 0, 305, 0, 0, 0, 0, 0, 0, 0, 0, 0, 307, 0, 0, 0] rfl ⟨⟨⟨⟨⟨trivial, ⟨⟨g1, g2⟩, c3⟩⟩, ⟨Nat.le_of_ble_eq_true rfl, rfl, hh _ _ _ rfl⟩⟩, ⟨Nat.le_of_ble_eq_true rfl, rfl, hh _ _ _ rfl⟩⟩, (ix ⟨Nat.le_of_ble_eq_true rfl, rfl⟩ g4)⟩, g5⟩ ?_
    refine wp.cl am_m195 rfl am_m192 6 [vi x2, vj (F 307 x5.toNat)] [vi (((24 * x1) + x3) + x5), vr 305] rfl (Nat.le_of_ble_eq_true rfl) (Nat.le_of_ble_eq_true rfl) rfl (Nat.le_of_ble_eq_true rfl) rfl (Nat.le_of_ble_eq_true rfl) (Nat.le_of_ble_eq_true rfl) trivial ?_
    refine wp.mono H ?_
    rintro v w1 ⟨v6, rfl, rfl, H⟩
    show wp 9 195 (87, [some (vr 297), some (vi x1), some (vi x2), some (vi x3), none, some (vi x5)], [vj v6, vi (((24 * x1) + x3) + x5), vr 305], (Wd S L F G h)) _
    obtain ⟨g7, H⟩ := H
    refine pt195 (s' := (51, [some (vr 297), some (vi x1), some (vi x2), some (vi x3), none, some (vi (x5 + 1))], [], (Wd S L F (am_up G 305 (((24 * x1) + x3) + x5).toNat v6) h))) (by decide) [0, 0, 0] rfl ⟨trivial, (ix ⟨Nat.le_of_ble_eq_true rfl, rfl⟩ g7)⟩ ?_
    exact wp.weak (a := [some (vr 297), some (vi x1), some (vi x2), some (vi x3), none, some (vi (x5 + 1))]) ⟨rfl, rfl, rfl, rfl, rfl, trivial⟩ H
set_option maxRecDepth 100000 in
set_option maxHeartbeats 4000000 in
theorem T196_0 {S L : Nat} {F G : Nat → Nat → Int} {h : Nat → Nat → Option Nat} (hh : RfH h) {a1 : Int} {a2 : Int} {a3 : Int}  {Q : Option V2 → W2 → Prop}
    (H : (R32 a1 ∧
 (if a1 < 0 then
  Q (some (vi (-1))) (Wd S L F G h)
 else
  (if 3 < a1 then
   Q (some (vi (-1))) (Wd S L F G h)
  else
   (R32 a2 ∧
   (if a2 < 0 then
    Q (some (vi (-1))) (Wd S L F G h)
   else
    (if 3 < a2 then
     Q (some (vi (-1))) (Wd S L F G h)
    else
     (R32 a3 ∧
     (if a3 ≤ 24 then
      (if 0 ≤ a3 then
       ((0 ≤ a1 ∧ a1 < 4) ∧
       C196_51 a1 a3 0 (Wd S L (am_up (am_up F 303 a1.toNat a2) 304 a1.toNat a3) G h) Q)
      else
       Q (some (vi (-14))) (Wd S L F G h))
     else
      Q (some (vi (-1))) (Wd S L F G h)))))))))) : C196_0 a1 a2 a3 (Wd S L F G h) Q := by
  refine pt196 (s' := (1, [some (vr 297), some (vi a1), some (vi a2), some (vi a3), none], [vi a1], (Wd S L F G h))) (by decide) [0] rfl trivial ?_
  refine wp.cl am_m196 rfl am_m191 7 [vi a1] [] rfl (Nat.le_of_ble_eq_true rfl) (Nat.le_of_ble_eq_true rfl) rfl (Nat.le_of_ble_eq_true rfl) rfl (Nat.le_of_ble_eq_true rfl) (Nat.le_of_ble_eq_true rfl) trivial ?_
  obtain ⟨g1, H⟩ := H
  refine pt191 (s' := (6, [some (vi a1)], [vj 3, vj 0, vj a1], (Wd S L F G h))) (by decide) [0, 0, 0, 0] rfl ⟨trivial, g1⟩ ?_
  refine wp.cl am_m191 rfl am_m112 6 [vj a1, vj 0, vj 3] [] rfl (Nat.le_of_ble_eq_true rfl) (Nat.le_of_ble_eq_true rfl) rfl (Nat.le_of_ble_eq_true rfl) rfl (Nat.le_of_ble_eq_true rfl) (Nat.le_of_ble_eq_true rfl) trivial ?_
  refine pt112 (s' := (3, [some (vj a1), none, some (vj 0), none, some (vj 3), none], [vi (y_cmp a1 0)], (Wd S L F G h))) (by decide) [0, 0, 0] rfl ⟨trivial, ⟨(r64 g1), (by decide : R64 0)⟩⟩ ?_
  by_cases c2 : a1 < 0
  · rw [if_pos c2] at H
    refine pt112 (s' := (18, [some (vj a1), none, some (vj 0), none, some (vj 3), none], [vi 0], (Wd S L F G h))) (by decide) [1, 0] rfl ⟨trivial, ⟨y_cmp_r32, (y_cmp_lt.mpr c2)⟩⟩ ?_
    refine wp.fin (v := some (vi 0)) (by decide) am_m112 rfl ⟨_, rfl, Or.inr ⟨rfl, Or.inl rfl⟩, rfl⟩ ?_
    show wp 7 191 (9, [some (vi a1)], [vi 0], (Wd S L F G h)) _
    refine wp.fin (v := some (vi 0)) (by decide) am_m191 rfl ⟨_, rfl, Or.inr ⟨rfl, Or.inl rfl⟩, rfl⟩ ?_
    show wp 8 196 (4, [some (vr 297), some (vi a1), some (vi a2), some (vi a3), none], [vi 0], (Wd S L F G h)) _
    refine pt196 (s' := (26, [some (vr 297), some (vi a1), some (vi a2), some (vi a3), none], [vi (-1)], (Wd S L F G h))) (by decide) [1, 0] rfl ⟨trivial, ⟨(by decide : R32 0), (by decide : (0 : Int) = (0 : Int))⟩⟩ ?_
    exact wp.fin (v := some (vi (-1))) (by decide) am_m196 rfl ⟨_, rfl, Or.inl rfl, rfl⟩ H
  · rw [if_neg c2] at H
    refine pt112 (s' := (10, [some (vj a1), none, some (vj 0), none, some (vj 3), none], [vi (y_cmp a1 3)], (Wd S L F G h))) (by decide) [0, 0, 0, 0] rfl ⟨⟨trivial, ⟨y_cmp_r32, (fun e => c2 (y_cmp_lt.mp e))⟩⟩, ⟨(r64 g1), (by decide : R64 3)⟩⟩ ?_
    by_cases c3 : 3 < a1
    · rw [if_pos c3] at H
      refine pt112 (s' := (18, [some (vj a1), none, some (vj 0), none, some (vj 3), none], [vi 0], (Wd S L F G h))) (by decide) [1, 0] rfl ⟨trivial, ⟨y_cmp_r32, (y_cmp_gt.mpr c3)⟩⟩ ?_
      refine wp.fin (v := some (vi 0)) (by decide) am_m112 rfl ⟨_, rfl, Or.inr ⟨rfl, Or.inl rfl⟩, rfl⟩ ?_
      show wp 7 191 (9, [some (vi a1)], [vi 0], (Wd S L F G h)) _
      refine wp.fin (v := some (vi 0)) (by decide) am_m191 rfl ⟨_, rfl, Or.inr ⟨rfl, Or.inl rfl⟩, rfl⟩ ?_
      show wp 8 196 (4, [some (vr 297), some (vi a1), some (vi a2), some (vi a3), none], [vi 0], (Wd S L F G h)) _
      refine pt196 (s' := (26, [some (vr 297), some (vi a1), some (vi a2), some (vi a3), none], [vi (-1)], (Wd S L F G h))) (by decide) [1, 0] rfl ⟨trivial, ⟨(by decide : R32 0), (by decide : (0 : Int) = (0 : Int))⟩⟩ ?_
      exact wp.fin (v := some (vi (-1))) (by decide) am_m196 rfl ⟨_, rfl, Or.inl rfl, rfl⟩ H
    · rw [if_neg c3] at H
      refine pt112 (s' := (18, [some (vj a1), none, some (vj 0), none, some (vj 3), none], [vi 1], (Wd S L F G h))) (by decide) [0, 0, 0] rfl ⟨trivial, ⟨y_cmp_r32, (fun e => c3 (y_cmp_gt.mp e))⟩⟩ ?_
      refine wp.fin (v := some (vi 1)) (by decide) am_m112 rfl ⟨_, rfl, Or.inr ⟨rfl, Or.inr rfl⟩, rfl⟩ ?_
      show wp 7 191 (9, [some (vi a1)], [vi 1], (Wd S L F G h)) _
      refine wp.fin (v := some (vi 1)) (by decide) am_m191 rfl ⟨_, rfl, Or.inr ⟨rfl, Or.inr rfl⟩, rfl⟩ ?_
      show wp 8 196 (4, [some (vr 297), some (vi a1), some (vi a2), some (vi a3), none], [vi 1], (Wd S L F G h)) _
      obtain ⟨g4, H⟩ := H
      refine pt196 (s' := (13, [some (vr 297), some (vi a1), some (vi a2), some (vi a3), none], [vj 3, vj 0, vj a2], (Wd S L F G h))) (by decide) [0, 0, 0, 0, 0] rfl ⟨⟨trivial, ⟨(by decide : R32 1), (by decide : ¬ (1 : Int) = (0 : Int))⟩⟩, g4⟩ ?_
      refine wp.cl am_m196 rfl am_m112 6 [vj a2, vj 0, vj 3] [] rfl (Nat.le_of_ble_eq_true rfl) (Nat.le_of_ble_eq_true rfl) rfl (Nat.le_of_ble_eq_true rfl) rfl (Nat.le_of_ble_eq_true rfl) (Nat.le_of_ble_eq_true rfl) trivial ?_
      refine pt112 (s' := (3, [some (vj a2), none, some (vj 0), none, some (vj 3), none], [vi (y_cmp a2 0)], (Wd S L F G h))) (by decide) [0, 0, 0] rfl ⟨trivial, ⟨(r64 g4), (by decide : R64 0)⟩⟩ ?_
      by_cases c5 : a2 < 0
      · rw [if_pos c5] at H
        refine pt112 (s' := (18, [some (vj a2), none, some (vj 0), none, some (vj 3), none], [vi 0], (Wd S L F G h))) (by decide) [1, 0] rfl ⟨trivial, ⟨y_cmp_r32, (y_cmp_lt.mpr c5)⟩⟩ ?_
        refine wp.fin (v := some (vi 0)) (by decide) am_m112 rfl ⟨_, rfl, Or.inr ⟨rfl, Or.inl rfl⟩, rfl⟩ ?_
        show wp 8 196 (16, [some (vr 297), some (vi a1), some (vi a2), some (vi a3), none], [vi 0], (Wd S L F G h)) _
        refine pt196 (s' := (26, [some (vr 297), some (vi a1), some (vi a2), some (vi a3), none], [vi (-1)], (Wd S L F G h))) (by decide) [1, 0] rfl ⟨trivial, ⟨(by decide : R32 0), (by decide : (0 : Int) = (0 : Int))⟩⟩ ?_
        exact wp.fin (v := some (vi (-1))) (by decide) am_m196 rfl ⟨_, rfl, Or.inl rfl, rfl⟩ H
      · rw [if_neg c5] at H
        refine pt112 (s' := (10, [some (vj a2), none, some (vj 0), none, some (vj 3), none], [vi (y_cmp a2 3)], (Wd S L F G h))) (by decide) [0, 0, 0, 0] rfl ⟨⟨trivial, ⟨y_cmp_r32, (fun e => c5 (y_cmp_lt.mp e))⟩⟩, ⟨(r64 g4), (by decide : R64 3)⟩⟩ ?_
        by_cases c6 : 3 < a2
        · rw [if_pos c6] at H
          refine pt112 (s' := (18, [some (vj a2), none, some (vj 0), none, some (vj 3), none], [vi 0], (Wd S L F G h))) (by decide) [1, 0] rfl ⟨trivial, ⟨y_cmp_r32, (y_cmp_gt.mpr c6)⟩⟩ ?_
          refine wp.fin (v := some (vi 0)) (by decide) am_m112 rfl ⟨_, rfl, Or.inr ⟨rfl, Or.inl rfl⟩, rfl⟩ ?_
          show wp 8 196 (16, [some (vr 297), some (vi a1), some (vi a2), some (vi a3), none], [vi 0], (Wd S L F G h)) _
          refine pt196 (s' := (26, [some (vr 297), some (vi a1), some (vi a2), some (vi a3), none], [vi (-1)], (Wd S L F G h))) (by decide) [1, 0] rfl ⟨trivial, ⟨(by decide : R32 0), (by decide : (0 : Int) = (0 : Int))⟩⟩ ?_
          exact wp.fin (v := some (vi (-1))) (by decide) am_m196 rfl ⟨_, rfl, Or.inl rfl, rfl⟩ H
        · rw [if_neg c6] at H
          refine pt112 (s' := (18, [some (vj a2), none, some (vj 0), none, some (vj 3), none], [vi 1], (Wd S L F G h))) (by decide) [0, 0, 0] rfl ⟨trivial, ⟨y_cmp_r32, (fun e => c6 (y_cmp_gt.mp e))⟩⟩ ?_
          refine wp.fin (v := some (vi 1)) (by decide) am_m112 rfl ⟨_, rfl, Or.inr ⟨rfl, Or.inr rfl⟩, rfl⟩ ?_
          show wp 8 196 (16, [some (vr 297), some (vi a1), some (vi a2), some (vi a3), none], [vi 1], (Wd S L F G h)) _
          obtain ⟨g7, H⟩ := H
          refine pt196 (s' := (22, [some (vr 297), some (vi a1), some (vi a2), some (vi a3), none], [vi 24, vi a3], (Wd S L F G h))) (by decide) [0, 0, 0] rfl ⟨trivial, ⟨(by decide : R32 1), (by decide : ¬ (1 : Int) = (0 : Int))⟩⟩ ?_
          by_cases c8 : a3 ≤ 24
          · rw [if_pos c8] at H
            refine pt196 (s' := (28, [some (vr 297), some (vi a1), some (vi a2), some (vi a3), none], [vi a3], (Wd S L F G h))) (by decide) [1, 0] rfl ⟨trivial, ⟨⟨g7, (by decide : R32 24)⟩, c8⟩⟩ ?_
            by_cases c9 : 0 ≤ a3
            · rw [if_pos c9] at H
              obtain ⟨g10, H⟩ := H
              refine pt196 (s' := (51, [some (vr 297), some (vi a1), some (vi a2), some (vi a3), some (vi 0)], [], (Wd S L (am_up (am_up F 303 a1.toNat a2) 304 a1.toNat a3) G h))) (by decide) [1, 0, 303, 0, 0, 0, 0, 304, 0, 0, 0, 0, 0] rfl ⟨⟨⟨⟨⟨trivial, ⟨g7, c9⟩⟩, ⟨Nat.le_of_ble_eq_true rfl, rfl, hh _ _ _ rfl⟩⟩, (ix ⟨Nat.le_of_ble_eq_true rfl, rfl⟩ g10)⟩, ⟨Nat.le_of_ble_eq_true rfl, rfl, hh _ _ _ rfl⟩⟩, (ix ⟨Nat.le_of_ble_eq_true rfl, rfl⟩ g10)⟩ ?_
              exact wp.weak (a := [some (vr 297), some (vi a1), none, some (vi a3), some (vi 0)]) ⟨rfl, rfl, rfl, rfl, trivial⟩ H
            · rw [if_neg c9] at H
              refine pt196 (s' := (33, [some (vr 297), some (vi a1), some (vi a2), some (vi a3), none], [vi (-14)], (Wd S L F G h))) (by decide) [0, 0] rfl ⟨trivial, ⟨g7, c9⟩⟩ ?_
              exact wp.fin (v := some (vi (-14))) (by decide) am_m196 rfl ⟨_, rfl, Or.inl rfl, rfl⟩ H
          · rw [if_neg c8] at H
            refine pt196 (s' := (26, [some (vr 297), some (vi a1), some (vi a2), some (vi a3), none], [vi (-1)], (Wd S L F G h))) (by decide) [0, 0] rfl ⟨trivial, ⟨⟨g7, (by decide : R32 24)⟩, c8⟩⟩ ?_
            exact wp.fin (v := some (vi (-1))) (by decide) am_m196 rfl ⟨_, rfl, Or.inl rfl, rfl⟩ H
set_option maxRecDepth 100000 in
set_option maxHeartbeats 4000000 in
theorem T196_51 {S L : Nat} {F G : Nat → Nat → Int} {h : Nat → Nat → Option Nat} (hh : RfH h) {x1 : Int} {x3 : Int} {x4 : Int}  {Q : Option V2 → W2 → Prop}
    (H : (R32 x4 ∧
 (if 24 ≤ x4 then
  Q (some (vi x3)) (Wd S L F G h)
 else
  ((0 ≤ ((24 * x1) + x4) ∧ ((24 * x1) + x4) < 96) ∧
  C196_51 x1 x3 (x4 + 1) (Wd S L F (am_up G 305 ((24 * x1) + x4).toNat 0) h) Q)))) : C196_51 x1 x3 x4 (Wd S L F G h) Q := by
  obtain ⟨g1, H⟩ := H
  refine pt196 (s' := (55, [some (vr 297), some (vi x1), none, some (vi x3), some (vi x4)], [vi 24, vi x4], (Wd S L F G h))) (by decide) [0, 0] rfl trivial ?_
  by_cases c2 : 24 ≤ x4
  · rw [if_pos c2] at H
    refine pt196 (s' := (78, [some (vr 297), some (vi x1), none, some (vi x3), some (vi x4)], [vi x3], (Wd S L F G h))) (by decide) [1, 0] rfl ⟨trivial, ⟨⟨g1, (by decide : R32 24)⟩, c2⟩⟩ ?_
    exact wp.fin (v := some (vi x3)) (by decide) am_m196 rfl ⟨_, rfl, Or.inl rfl, rfl⟩ H
  · rw [if_neg c2] at H
    obtain ⟨g3, H⟩ := H
    refine pt196 (s' := (51, [some (vr 297), some (vi x1), none, some (vi x3), some (vi (x4 + 1))], [], (Wd S L F (am_up G 305 ((24 * x1) + x4).toNat 0) h))) (by decide) [0, 0, 305, 0, 0, 0, 0, 0, 0, 0, 0, 0] rfl ⟨⟨⟨trivial, ⟨⟨g1, (by decide : R32 24)⟩, c2⟩⟩, ⟨Nat.le_of_ble_eq_true rfl, rfl, hh _ _ _ rfl⟩⟩, (ix ⟨Nat.le_of_ble_eq_true rfl, rfl⟩ g3)⟩ ?_
    exact wp.weak (a := [some (vr 297), some (vi x1), none, some (vi x3), some (vi (x4 + 1))]) ⟨rfl, rfl, rfl, rfl, trivial⟩ H
set_option maxRecDepth 100000 in
set_option maxHeartbeats 4000000 in
theorem T197_0 {S L : Nat} {F G : Nat → Nat → Int} {h : Nat → Nat → Option Nat} (hh : RfH h) {a1 : Int}  {Q : Option V2 → W2 → Prop}
    (H : (R32 a1 ∧
 (if a1 < 0 then
  Q (some (vi (-1))) (Wd S L F G h)
 else
  (if 3 < a1 then
   Q (some (vi (-1))) (Wd S L F G h)
  else
   ((0 ≤ a1 ∧ a1 < 4) ∧
   R32 (F 303 a1.toNat) ∧
   (if 0 ≤ (F 303 a1.toNat) then
    Q (some (vi (F 304 a1.toNat))) (Wd S L (am_up F 303 a1.toNat (-1)) G h)
   else
    Q (some (vi (-11))) (Wd S L F G h))))))) : C197_0 a1 (Wd S L F G h) Q := by
  refine pt197 (s' := (1, [some (vr 297), some (vi a1)], [vi a1], (Wd S L F G h))) (by decide) [0] rfl trivial ?_
  refine wp.cl am_m197 rfl am_m191 7 [vi a1] [] rfl (Nat.le_of_ble_eq_true rfl) (Nat.le_of_ble_eq_true rfl) rfl (Nat.le_of_ble_eq_true rfl) rfl (Nat.le_of_ble_eq_true rfl) (Nat.le_of_ble_eq_true rfl) trivial ?_
  obtain ⟨g1, H⟩ := H
  refine pt191 (s' := (6, [some (vi a1)], [vj 3, vj 0, vj a1], (Wd S L F G h))) (by decide) [0, 0, 0, 0] rfl ⟨trivial, g1⟩ ?_
  refine wp.cl am_m191 rfl am_m112 6 [vj a1, vj 0, vj 3] [] rfl (Nat.le_of_ble_eq_true rfl) (Nat.le_of_ble_eq_true rfl) rfl (Nat.le_of_ble_eq_true rfl) rfl (Nat.le_of_ble_eq_true rfl) (Nat.le_of_ble_eq_true rfl) trivial ?_
  refine pt112 (s' := (3, [some (vj a1), none, some (vj 0), none, some (vj 3), none], [vi (y_cmp a1 0)], (Wd S L F G h))) (by decide) [0, 0, 0] rfl ⟨trivial, ⟨(r64 g1), (by decide : R64 0)⟩⟩ ?_
  by_cases c2 : a1 < 0
  · rw [if_pos c2] at H
    refine pt112 (s' := (18, [some (vj a1), none, some (vj 0), none, some (vj 3), none], [vi 0], (Wd S L F G h))) (by decide) [1, 0] rfl ⟨trivial, ⟨y_cmp_r32, (y_cmp_lt.mpr c2)⟩⟩ ?_
    refine wp.fin (v := some (vi 0)) (by decide) am_m112 rfl ⟨_, rfl, Or.inr ⟨rfl, Or.inl rfl⟩, rfl⟩ ?_
    show wp 7 191 (9, [some (vi a1)], [vi 0], (Wd S L F G h)) _
    refine wp.fin (v := some (vi 0)) (by decide) am_m191 rfl ⟨_, rfl, Or.inr ⟨rfl, Or.inl rfl⟩, rfl⟩ ?_
    show wp 8 197 (4, [some (vr 297), some (vi a1)], [vi 0], (Wd S L F G h)) _
    refine pt197 (s' := (8, [some (vr 297), some (vi a1)], [vi (-1)], (Wd S L F G h))) (by decide) [0, 0] rfl ⟨trivial, ⟨(by decide : R32 0), (by decide : (0 : Int) = (0 : Int))⟩⟩ ?_
    exact wp.fin (v := some (vi (-1))) (by decide) am_m197 rfl ⟨_, rfl, Or.inl rfl, rfl⟩ H
  · rw [if_neg c2] at H
    refine pt112 (s' := (10, [some (vj a1), none, some (vj 0), none, some (vj 3), none], [vi (y_cmp a1 3)], (Wd S L F G h))) (by decide) [0, 0, 0, 0] rfl ⟨⟨trivial, ⟨y_cmp_r32, (fun e => c2 (y_cmp_lt.mp e))⟩⟩, ⟨(r64 g1), (by decide : R64 3)⟩⟩ ?_
    by_cases c3 : 3 < a1
    · rw [if_pos c3] at H
      refine pt112 (s' := (18, [some (vj a1), none, some (vj 0), none, some (vj 3), none], [vi 0], (Wd S L F G h))) (by decide) [1, 0] rfl ⟨trivial, ⟨y_cmp_r32, (y_cmp_gt.mpr c3)⟩⟩ ?_
      refine wp.fin (v := some (vi 0)) (by decide) am_m112 rfl ⟨_, rfl, Or.inr ⟨rfl, Or.inl rfl⟩, rfl⟩ ?_
      show wp 7 191 (9, [some (vi a1)], [vi 0], (Wd S L F G h)) _
      refine wp.fin (v := some (vi 0)) (by decide) am_m191 rfl ⟨_, rfl, Or.inr ⟨rfl, Or.inl rfl⟩, rfl⟩ ?_
      show wp 8 197 (4, [some (vr 297), some (vi a1)], [vi 0], (Wd S L F G h)) _
      refine pt197 (s' := (8, [some (vr 297), some (vi a1)], [vi (-1)], (Wd S L F G h))) (by decide) [0, 0] rfl ⟨trivial, ⟨(by decide : R32 0), (by decide : (0 : Int) = (0 : Int))⟩⟩ ?_
      exact wp.fin (v := some (vi (-1))) (by decide) am_m197 rfl ⟨_, rfl, Or.inl rfl, rfl⟩ H
    · rw [if_neg c3] at H
      refine pt112 (s' := (18, [some (vj a1), none, some (vj 0), none, some (vj 3), none], [vi 1], (Wd S L F G h))) (by decide) [0, 0, 0] rfl ⟨trivial, ⟨y_cmp_r32, (fun e => c3 (y_cmp_gt.mp e))⟩⟩ ?_
      refine wp.fin (v := some (vi 1)) (by decide) am_m112 rfl ⟨_, rfl, Or.inr ⟨rfl, Or.inr rfl⟩, rfl⟩ ?_
      show wp 7 191 (9, [some (vi a1)], [vi 1], (Wd S L F G h)) _
      refine wp.fin (v := some (vi 1)) (by decide) am_m191 rfl ⟨_, rfl, Or.inr ⟨rfl, Or.inr rfl⟩, rfl⟩ ?_
      show wp 8 197 (4, [some (vr 297), some (vi a1)], [vi 1], (Wd S L F G h)) _
      obtain ⟨g4, H⟩ := H
      obtain ⟨g5, H⟩ := H
      refine pt197 (s' := (15, [some (vr 297), some (vi a1)], [vi (F 303 a1.toNat)], (Wd S L F G h))) (by decide) [1, 0, 303, 0, 0] rfl ⟨⟨⟨trivial, ⟨(by decide : R32 1), (by decide : ¬ (1 : Int) = (0 : Int))⟩⟩, ⟨Nat.le_of_ble_eq_true rfl, rfl, hh _ _ _ rfl⟩⟩, (ix ⟨Nat.le_of_ble_eq_true rfl, rfl⟩ g4)⟩ ?_
      by_cases c6 : 0 ≤ (F 303 a1.toNat)
      · rw [if_pos c6] at H
        refine pt197 (s' := (34, [some (vr 297), some (vi a1)], [vi (F 304 a1.toNat)], (Wd S L (am_up F 303 a1.toNat (-1)) G h))) (by decide) [1, 0, 303, 0, 0, 0, 0, 304, 0, 0] rfl ⟨⟨⟨⟨⟨trivial, ⟨g5, c6⟩⟩, ⟨Nat.le_of_ble_eq_true rfl, rfl, hh _ _ _ rfl⟩⟩, (ix ⟨Nat.le_of_ble_eq_true rfl, rfl⟩ g4)⟩, ⟨Nat.le_of_ble_eq_true rfl, rfl, hh _ _ _ rfl⟩⟩, (ix ⟨Nat.le_of_ble_eq_true rfl, rfl⟩ g4)⟩ ?_
        exact wp.fin (v := some (vi (F 304 a1.toNat))) (by decide) am_m197 rfl ⟨_, rfl, Or.inl rfl, rfl⟩ H
      · rw [if_neg c6] at H
        refine pt197 (s' := (20, [some (vr 297), some (vi a1)], [vi (-11)], (Wd S L F G h))) (by decide) [0, 0] rfl ⟨trivial, ⟨g5, c6⟩⟩ ?_
        exact wp.fin (v := some (vi (-11))) (by decide) am_m197 rfl ⟨_, rfl, Or.inl rfl, rfl⟩ H
